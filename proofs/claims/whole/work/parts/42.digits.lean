/-! codes as numbers of fifteen digits; pairs -/
def up6 (p : Nat) : Nat := if p < 1 then 1 else if p < 3 then 2 else if p < 6 then 3 else if p < 10 then 4 else 5
def lo6 (p : Nat) : Nat := p - up6 p * (up6 p - 1) / 2
theorem ul6 : ∀ p, p < 15 → lo6 p < up6 p ∧ up6 p < 6 ∧ pr (up6 p) (lo6 p) = p := by decide
theorem ul6_pr : ∀ a, a < 6 → ∀ b, b < a → up6 (pr a b) = a ∧ lo6 (pr a b) = b := by decide
/-- the first P digits as one number -/
def pq (cd : Nat → Nat) : Nat → Nat
  | 0 => 0
  | P + 1 => pq cd P * 4 + cd P
def pk (cd : Nat → Nat) (P : Nat) : Nat := pq cd P * 4 ^ (15 - P)
def dg (c p : Nat) : Nat := c / 4 ^ (14 - p) % 4
theorem pq_congr {cd cd' : Nat → Nat} : ∀ P, (∀ j, j < P → cd j = cd' j) → pq cd P = pq cd' P := by
  intro P
  induction P with
  | zero => intro _; rfl
  | succ P ih => intro h; rw [pq, pq, ih (fun j hj => h j (by omega)), h P (by omega)]
theorem pk_congr {cd cd' : Nat → Nat} (P : Nat) (h : ∀ j, j < P → cd j = cd' j) : pk cd P = pk cd' P := by
  unfold pk
  rw [pq_congr P h]
theorem pq_lt {cd : Nat → Nat} : ∀ P, (∀ j, j < P → cd j < 4) → pq cd P < 4 ^ P := by
  intro P
  induction P with
  | zero => intro _; exact Nat.one_pos
  | succ P ih =>
    intro h
    have h1 := ih (fun j hj => h j (by omega))
    have h2 := h P (by omega)
    rw [pq, Nat.pow_succ]
    omega
theorem pq_div {cd : Nat → Nat} (a : Nat) : ∀ b, (∀ j, j < a + b → cd j < 4) → pq cd (a + b) / 4 ^ b = pq cd a := by
  intro b
  induction b with
  | zero => intro _; rw [Nat.add_zero, Nat.pow_zero, Nat.div_one]
  | succ b ih =>
    intro h
    have h1 := ih (fun j hj => h j (by omega))
    have h2 := h (a + b) (by omega)
    rw [← Nat.add_assoc, pq, Nat.pow_succ, Nat.mul_comm (4 ^ b) 4, ← Nat.div_div_eq_div_mul]
    rw [show (pq cd (a + b) * 4 + cd (a + b)) / 4 = pq cd (a + b) by omega]
    exact h1
theorem pcd_lt {cd : Nat → Nat} {P : Nat} (hP : P ≤ 15) (h : ∀ j, j < P → cd j < 4) : pk cd P < 2 ^ 30 := by
  have h1 := pq_lt P h
  unfold pk
  have h2 : 4 ^ P * 4 ^ (15 - P) = 2 ^ 30 := by
    rw [← Nat.pow_add, show P + (15 - P) = 15 by omega]
  rw [← h2]
  exact Nat.mul_lt_mul_of_pos_right h1 (Nat.pow_pos (by decide))
theorem pcd_div {cd : Nat → Nat} {P p : Nat} (hP : P ≤ 15) (hp : p ≤ P) (h : ∀ j, j < P → cd j < 4) : pk cd P / 4 ^ (15 - p) = pq cd p := by
  unfold pk
  rw [show 15 - p = (15 - P) + (P - p) by omega, Nat.pow_add, ← Nat.div_div_eq_div_mul, Nat.mul_div_cancel _ (Nat.pow_pos (by decide))]
  have h1 := pq_div (cd := cd) p (P - p) (fun j hj => h j (by omega))
  rw [show p + (P - p) = P by omega] at h1
  exact h1
theorem dg_pk {cd : Nat → Nat} {P p : Nat} (hP : P ≤ 15) (hp : p < 15) (h : ∀ j, j < P → cd j < 4) : dg (pk cd P) p = if p < P then cd p else 0 := by
  unfold dg
  split
  · rename_i q
    have h1 := pcd_div (p := p + 1) hP (by omega) h
    rw [show 15 - (p + 1) = 14 - p by omega] at h1
    have h2 := h p q
    rw [h1, pq]
    omega
  · rename_i q
    unfold pk
    rw [show 15 - P = (14 - p) + ((p - P) + 1) by omega, Nat.pow_add, Nat.mul_comm (4 ^ (14 - p)), ← Nat.mul_assoc, Nat.mul_div_cancel _ (Nat.pow_pos (by decide)), Nat.pow_succ, ← Nat.mul_assoc]
    omega
theorem pk_or {cd : Nat → Nat} {p v : Nat} (hp : p < 15) (hv : v < 4) : pk cd p ||| v * 4 ^ (14 - p) = pk (va_up cd p v) (p + 1) := by
  have h1 : pq (va_up cd p v) p = pq cd p := pq_congr p (fun j hj => va_up_ne _ _ (by omega))
  unfold pk
  rw [pq, h1, va_up_self, show 15 - (p + 1) = 14 - p by omega, show 15 - p = (14 - p) + 1 by omega, Nat.pow_succ, Nat.mul_comm (4 ^ (14 - p)) 4, ← Nat.mul_assoc, ← mj_lor4 _ _ hv]
  have h2 : (4 : Nat) ^ (14 - p) = 2 ^ (2 * (14 - p)) := by rw [Nat.pow_mul]
  rw [h2, ← Nat.shiftLeft_eq, ← Nat.shiftLeft_eq, ← Nat.shiftLeft_eq, Nat.shiftLeft_or_distrib]
theorem dgt_dg : ∀ a, a < 6 → ∀ b, b < a → ∀ c, dgt c a b = dg c (pr a b) := by
  intro a ha b hb c
  unfold dgt dg
  have e : ∀ a, a < 6 → ∀ b, b < a → 2 ^ mj_sh a * 4 ^ (a - 1 - b) = 4 ^ (14 - pr a b) := by decide
  rw [Nat.div_div_eq_div_mul, e a ha b hb]
theorem sh_pr : ∀ a, a < 6 → ∀ b, b < a → 2 ^ (mj_sh a + 2 * (a - 1 - b)) = 4 ^ (14 - pr a b) := by decide
theorem sh_row : ∀ k, k < 6 → 2 ^ mj_sh k = 4 ^ (15 - pr k k) := by decide
/-- a matrix of bonds that has the digits of the pairs before p -/
def mxB (B cd : Nat → Nat) (p : Nat) : Prop := ∀ a b, a < 6 → b < a → pr a b < p → B (a * 6 + b) = cd (pr a b) ∧ B (b * 6 + a) = cd (pr a b)
def mB (cd : Nat → Nat) (j : Nat) : Nat := if j % 6 < j / 6 then cd (pr (j / 6) (j % 6)) else if j / 6 < j % 6 then cd (pr (j % 6) (j / 6)) else 0
theorem mB_at {cd : Nat → Nat} {a b : Nat} (ha : a < 6) (hb : b < 6) : mB cd (a * 6 + b) = if b < a then cd (pr a b) else if a < b then cd (pr b a) else 0 := by
  unfold mB
  rw [show (a * 6 + b) / 6 = a by omega, show (a * 6 + b) % 6 = b by omega]
theorem mB_mx (cd : Nat → Nat) (p : Nat) : mxB (mB cd) cd p := by
  intro a b ha hb _
  rw [mB_at ha (by omega), mB_at (by omega) ha, if_pos hb, if_neg (by omega), if_pos hb]
  exact ⟨rfl, rfl⟩
theorem mB_lt {cd : Nat → Nat} (h : ∀ j, j < 15 → cd j < 4) : ∀ j, j < 36 → mB cd j < 4 := by
  intro j hj
  unfold mB
  split
  · exact h _ (pr_lt _ (by omega) _ (by omega))
  · split
    · exact h _ (pr_lt _ (by omega) _ (by omega))
    · decide
/-- a row of a matrix is the digits of its pairs -/
theorem rw_row {B cd : Nat → Nat} {k : Nat} (hk : k < 6) : ∀ m, m ≤ k → mxB B cd (pr k m) → pq cd (pr k m) = pq cd (pr k 0) * 4 ^ m + mj_rw B (fun j => j) k m := by
  intro m
  induction m with
  | zero => intro _ _; rw [mj_rw]; omega
  | succ m ih =>
    intro hm hx
    have e : pr k (m + 1) = pr k m + 1 := by unfold pr; omega
    have h1 := ih (by omega) (fun a b ha hb h => hx a b ha hb (by omega))
    have h2 := (hx k m hk (by omega) (by omega)).1
    rw [e, pq, h1, mj_rw, h2, Nat.pow_succ]
    rw [← Nat.mul_assoc]
    generalize pq cd (pr k 0) * 4 ^ m = x
    omega
theorem ow_row {B cd : Nat → Nat} {k P : Nat} (hk : k < 6) (hP : P ≤ 15) (hp : pr k k ≤ P) (h : ∀ j, j < P → cd j < 4) (hx : mxB B cd P) (hB : ∀ j, j < 36 → B j < 4) : mj_ow (pk cd P) k = mj_rw B (fun j => j) k k := by
  unfold mj_ow
  rw [sh_row k hk, pcd_div hP hp h, rw_row hk k (Nat.le_refl _) (fun a b ha hb h => hx a b ha hb (by omega))]
  have h2 := mj_rw_lt (ch := fun j => j) (a := k) hk hB k (fun j hj => by show j < 6; omega)
  rw [Nat.pow_mul, show (2 : Nat) ^ 2 = 4 by decide, Nat.mul_comm, Nat.mul_add_mod]
  exact Nat.mod_eq_of_lt h2
