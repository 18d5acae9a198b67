/-! the class's search and the reference's find the same list -/
theorem btA_iff {f : Nat → Bool} : ∀ (r a : Nat), btA f r a = true ↔ ∃ x, a ≤ x ∧ x < a + r ∧ f x = true := by
  intro r
  induction r with
  | zero => intro a; exact ⟨fun h => absurd h (by simp [btA]), fun ⟨x, h1, h2, _⟩ => by omega⟩
  | succ r ih =>
    intro a
    rw [btA, Bool.or_eq_true, ih]
    constructor
    · rintro (h | ⟨x, h1, h2, h3⟩)
      · exact ⟨a, by omega, by omega, h⟩
      · exact ⟨x, by omega, by omega, h3⟩
    · rintro ⟨x, h1, h2, h3⟩
      by_cases e : x = a
      · subst e; exact Or.inl h3
      · exact Or.inr ⟨x, by omega, by omega, h3⟩
theorem nbR_none {f : Nat → Nat → Option Nat} (N : Nat → Prop) : ∀ (r a w : Nat), (∀ x w, a ≤ x → x < a + r → (f x w = none ↔ N x)) → (nbR f r a w = none ↔ ∃ x, a ≤ x ∧ x < a + r ∧ N x) := by
  intro r
  induction r with
  | zero => intro a w _; exact ⟨fun h => absurd h (by simp [nbR]), fun ⟨x, h1, h2, _⟩ => by omega⟩
  | succ r ih =>
    intro a w h
    have h0 := h a w (by omega) (by omega)
    rw [nbR]
    split
    · rename_i hn
      exact ⟨fun _ => ⟨a, by omega, by omega, h0.mp hn⟩, fun _ => rfl⟩
    · rename_i w' hn
      rw [ih (a + 1) w' (fun x w h1 h2 => h x w (by omega) (by omega))]
      constructor
      · rintro ⟨x, h1, h2, h3⟩
        exact ⟨x, by omega, by omega, h3⟩
      · rintro ⟨x, h1, h2, h3⟩
        by_cases e : x = a
        · subst e
          rw [h0.mpr h3] at hn
          exact absurd hn (by simp)
        · exact ⟨x, by omega, by omega, h3⟩
theorem bt_nb {m c : Nat} {KM B : Nat → Nat} (hc : ∀ k, k < m → mj_ow c k = mj_rw B (fun j => j) k k) : ∀ (r k : Nat) (ch : Nat → Nat) (tk : Nat → Bool) (w : Nat), k + r = m → (nbI m KM B r k ch tk w = none ↔ btI m KM B KM c r k ch tk = true) := by
  intro r
  induction r with
  | zero => intro k ch tk w _; exact ⟨fun h => absurd h (by simp [nbI]), fun h => absurd h (by simp [btI])⟩
  | succ r ih =>
    intro k ch tk w hk
    rw [nbI, btI, btA_iff]
    refine nbR_none (fun x => (decide (tk x = false ∧ KM x = KM k) && (decide (mj_ow c k < mj_rw B ch x k) || (decide (mj_rw B ch x k = mj_ow c k) && btI m KM B KM c r (k + 1) (va_up ch k x) (va_up tk x true)))) = true) m 0 w (fun x w _ _ => ?_)
    rw [hc k (by omega)]
    have hi := ih (k + 1) (va_up ch k x) (va_up tk x true) w (by omega)
    simp only [Bool.and_eq_true, Bool.or_eq_true, decide_eq_true_eq]
    by_cases q1 : tk x = false ∧ KM x = KM k
    · rw [if_pos q1]
      by_cases q2 : mj_rw B (fun j => j) k k < mj_rw B ch x k
      · rw [if_pos q2]
        exact ⟨fun _ => ⟨q1, Or.inl q2⟩, fun _ => rfl⟩
      · rw [if_neg q2]
        by_cases q3 : mj_rw B ch x k = mj_rw B (fun j => j) k k
        · rw [if_pos q3, hi]
          exact ⟨fun h => ⟨q1, Or.inr ⟨q3, h⟩⟩, fun h => by
            rcases h.2 with z | z
            · exact absurd z q2
            · exact z.2⟩
        · rw [if_neg q3]
          exact ⟨fun h => absurd h (by simp), fun h => by
            rcases h.2 with z | z
            · exact absurd z q2
            · exact absurd z.1 q3⟩
    · rw [if_neg q1]
      exact ⟨fun h => absurd h (by simp), fun h => absurd h.1 q1⟩
theorem esR_id {f : Nat → List Nat → List Nat} {acc : List Nat} : ∀ v, (∀ x, x < v → f x acc = acc) → esR f v acc = acc := by
  intro v
  induction v with
  | zero => intro _; rfl
  | succ v ih =>
    intro h
    rw [esR]
    split
    · rfl
    · rw [h v (by omega)]
      exact ih (fun x hx => h x (by omega))
theorem esR_congr {f g : Nat → List Nat → List Nat} : ∀ v acc, acc.length ≤ 501 → (∀ x acc, x < v → acc.length ≤ 500 → f x acc = g x acc) → (∀ x acc, x < v → acc.length ≤ 501 → (g x acc).length ≤ 501) → esR f v acc = esR g v acc := by
  intro v
  induction v with
  | zero => intro acc _ _ _; rfl
  | succ v ih =>
    intro acc ha h hl
    rw [esR, esR]
    split
    · rfl
    · rename_i q
      rw [h v acc (by omega) (by omega)]
      exact ih _ (hl v acc (by omega) ha) (fun x acc hx => h x acc (by omega)) (fun x acc hx => hl x acc (by omega))
/-- numbers tried from the greatest down, as the class tries them -/
theorem chR_esR {g : Nat → List Nat → List Nat} {body : Nat → List Nat → List Nat} : ∀ (r i t : Nat) (acc : List Nat), i + r = t → (∀ j acc, i ≤ j → j < t → g j acc = if 500 < acc.length then acc else body (t - 1 - j) acc) → chR g r i acc = esR body r acc := by
  intro r
  induction r with
  | zero => intro i t acc _ _; rfl
  | succ r ih =>
    intro i t acc hi h
    rw [chR, esR, h i acc (by omega) (by omega), show t - 1 - i = r by omega]
    by_cases q : 500 < acc.length
    · rw [if_pos q, if_pos q, ih (i + 1) t acc (by omega) (fun j acc h1 h2 => h j acc (by omega) h2), esR_full q]
    · rw [if_neg q, if_neg q, ih (i + 1) t _ (by omega) (fun j acc h1 h2 => h j acc (by omega) h2)]
theorem mj_vs_congr {F F' : Nat → Int} : ∀ m a, (∀ j, a ≤ j → j < a + m → F j = F' j) → mj_vs F m a = mj_vs F' m a := by
  intro m
  induction m with
  | zero => intro a _; rfl
  | succ m ih =>
    intro a h
    rw [mj_vs, mj_vs, ih (a + 1) (fun j h1 h2 => h j (by omega) (by omega)), h a (by omega) (by omega)]
theorem up6_next : ∀ p, p < 14 → (lo6 p + 1 < up6 p → up6 (p + 1) = up6 p ∧ lo6 (p + 1) = lo6 p + 1) ∧ (lo6 p + 1 = up6 p → up6 (p + 1) = up6 p + 1 ∧ lo6 (p + 1) = 0) := by decide
section ES
variable {A P : Nat} {KM : Nat → Nat}
theorem es_P (hA : 1 ≤ A ∧ A ≤ 6) (hP : P = A * (A - 1) / 2) : P ≤ 15 ∧ (∀ p, p < P → up6 p < A) ∧ (∀ p, p + 1 < P → up6 (p + 1) < A) ∧ (∀ p, p + 1 = P → lo6 p + 1 = up6 p ∧ up6 p + 1 = A) := by
  have t : ∀ a, a ≤ 6 → a * (a - 1) / 2 ≤ 15 ∧ (∀ p, p < a * (a - 1) / 2 → up6 p < a) ∧ (∀ p, p < a * (a - 1) / 2 → p + 1 < a * (a - 1) / 2 → up6 (p + 1) < a) ∧ (∀ p, p < a * (a - 1) / 2 → p + 1 = a * (a - 1) / 2 → lo6 p + 1 = up6 p ∧ up6 p + 1 = a) := by decide
  have h := t A hA.2
  rw [← hP] at h
  exact ⟨h.1, h.2.1, fun p hp => h.2.2.1 p (by omega) hp, fun p hp => h.2.2.2 p (by omega) hp⟩
/-- too many bonds are left: none can be spent on atoms that are done -/
theorem es_dead1 (hA : 1 ≤ A ∧ A ≤ 6) (hP : P = A * (A - 1) / 2) : ∀ (r p : Nat) (left : Int) (cd : Nat → Nat) (F : Nat → Int) (acc : List Nat), p + r = P → mj_vs F (A - if r = 0 then A else up6 p) (if r = 0 then A else up6 p) < left → es A P KM r p left cd F acc = acc := by
  obtain ⟨p15, pu, pn, pe⟩ := es_P hA hP
  intro r
  induction r with
  | zero =>
    intro p left cd F acc hp h
    rw [if_pos rfl, Nat.sub_self, mj_vs] at h
    rw [es]
    split
    · rfl
    · rw [if_neg (by omega)]
  | succ r ih =>
    intro p left cd F acc hp h
    rw [if_neg (by omega)] at h
    rw [es]
    refine esR_id _ (fun v hv => ?_)
    split
    · rfl
    · have u := ul6 p (by omega)
      have ua := pu p (by omega)
      have hvF : (v : Int) ≤ F (up6 p) := by omega
      refine ih (p + 1) _ _ _ acc (by omega) ?_
      have inrow : mj_vs (mset F (up6 p) (lo6 p) v) (A - (up6 p + 1)) (up6 p + 1) = mj_vs F (A - (up6 p + 1)) (up6 p + 1) := mj_vs_congr _ _ (fun j h1 h2 => by rw [mset_at, if_neg (by omega), if_neg (by omega)])
      have full : mj_vs F (A - up6 p) (up6 p) = mj_vs F (A - (up6 p + 1)) (up6 p + 1) + F (up6 p) := by
        rw [show A - up6 p = (A - (up6 p + 1)) + 1 by omega, mj_vs]
      have full2 : mj_vs (mset F (up6 p) (lo6 p) v) (A - up6 p) (up6 p) = mj_vs F (A - (up6 p + 1)) (up6 p + 1) + (F (up6 p) - v) := by
        rw [show A - up6 p = (A - (up6 p + 1)) + 1 by omega, mj_vs, inrow, mset_at, if_neg (by omega), if_pos rfl]
      by_cases r0 : r = 0
      · rw [if_pos r0, Nat.sub_self, mj_vs]
        have e := pe p (by omega)
        rw [e.2, Nat.sub_self, mj_vs] at full
        omega
      · rw [if_neg r0]
        have un := up6_next p (by omega)
        by_cases q : lo6 p + 1 < up6 p
        · rw [(un.1 q).1, full2]
          omega
        · rw [(un.2 (by omega)).1, inrow]
          omega
/-- too few bonds are left to join all groups -/
theorem es_dead2 (hA : 1 ≤ A ∧ A ≤ 6) (hP : P = A * (A - 1) / 2) {k : Nat} (hk : 1 ≤ k ∧ k ≤ A) : ∀ (r p : Nat) (left : Int) (cd : Nat → Nat) (F : Nat → Int) (acc : List Nat), p + r = P → pr k 0 ≤ p → 0 ≤ left → left + sN cd p < (cgN (mB cd) k).1 + ((A : Int) - k) - 1 + sN cd (pr k 0) → es A P KM r p left cd F acc = acc := by
  obtain ⟨p15, pu, pn, pe⟩ := es_P hA hP
  intro r
  induction r with
  | zero =>
    intro p left cd F acc hp hkp hl h
    rw [es]
    split
    · rfl
    · rw [if_neg]
      intro ⟨_, hc⟩
      rw [rc_cg hA hP] at hc
      have eA : pr (k + (A - k)) 0 = P := by
        rw [show k + (A - k) = A by omega, hP]
        unfold pr
        omega
      have low := cgN_low (B := mB cd) (cd := cd) (k := k) (A - k) (by omega) (mB_mx _ _)
      rw [eA, show k + (A - k) = A by omega] at low
      have : p = P := by omega
      subst this
      omega
  | succ r ih =>
    intro p left cd F acc hp hkp hl h
    rw [es]
    refine esR_id _ (fun v hv => ?_)
    split
    · rfl
    · have hvl : (v : Int) ≤ left := by omega
      have e1 : sN (va_up cd p v) (p + 1) = sN cd p + v := by
        rw [sN, va_up_self, sN_congr p (fun j hj => va_up_ne _ _ (by omega))]
      have e2 : sN (va_up cd p v) (pr k 0) = sN cd (pr k 0) := sN_congr _ (fun j hj => va_up_ne _ _ (by omega))
      have e3 : cgN (mB (va_up cd p v)) k = cgN (mB cd) k := by
        refine cgN_congr k (fun x y hx hy => ?_)
        have hlt : pr x y < pr k 0 := (show ∀ k, k ≤ 6 → ∀ x, x < k → ∀ y, y < x → pr x y < pr k 0 by decide) k (by omega) x hx y hy
        rw [mB_at (by omega) (by omega), mB_at (by omega) (by omega), if_pos hy, if_pos hy, va_up_ne _ _ (by omega)]
      refine ih (p + 1) _ _ _ acc (by omega) (by omega) (by omega) ?_
      rw [e1, e2, e3]
      omega
theorem bsetN_xy {B : Nat → Nat} {a b x y : Nat} {v : Nat} (ha : a < 6) (hb : b < 6) (hx : x < 6) (hy : y < 6) : bsetN B a b v (x * 6 + y) = if (x = a ∧ y = b) ∨ (x = b ∧ y = a) then v else B (x * 6 + y) := by
  unfold bsetN
  by_cases e1 : x * 6 + y = b * 6 + a
  · rw [e1, va_up_self, if_pos (Or.inr (by omega))]
  · rw [va_up_ne _ _ e1]
    by_cases e2 : x * 6 + y = a * 6 + b
    · rw [e2, va_up_self, if_pos (Or.inl (by omega))]
    · rw [va_up_ne _ _ e2, if_neg (by omega)]
/-- a matrix that holds the digits before p, and nothing on its diagonal -/
def mxD (B cd : Nat → Nat) (p : Nat) : Prop := mxB B cd p ∧ (∀ j, j < 36 → B j < 4) ∧ ∀ x, x < 6 → B (x * 6 + x) = 0
theorem mxD.set {B cd : Nat → Nat} {a b v : Nat} (h : mxD B cd (pr a b)) (ha : a < 6) (hb : b < a) (hv : v < 4) : mxD (bsetN B a b v) (va_up cd (pr a b) v) (pr a b + 1) := by
  obtain ⟨h1, h2, h3⟩ := h
  refine ⟨fun x y hx hy hp => ?_, fun j hj => ?_, fun x hx => ?_⟩
  · rw [bsetN_xy ha (by omega) hx (by omega), bsetN_xy ha (by omega) (by omega) hx]
    by_cases e : pr x y = pr a b
    · have u1 := ul6_pr x hx y hy
      have u2 := ul6_pr a ha b hb
      rw [e] at u1
      have ex : x = a := by omega
      have ey : y = b := by omega
      subst ex
      subst ey
      rw [if_pos (Or.inl ⟨rfl, rfl⟩), if_pos (Or.inr ⟨rfl, rfl⟩), va_up_self]
      exact ⟨rfl, rfl⟩
    · have hne : ¬ (x = a ∧ y = b) := fun q => e (by rw [q.1, q.2])
      rw [if_neg (by omega), if_neg (by omega), va_up_ne _ _ e]
      exact h1 x y hx hy (by omega)
  · have hj6 : j = (j / 6) * 6 + j % 6 := by omega
    rw [hj6, bsetN_xy ha (by omega) (by omega) (by omega)]
    split
    · exact hv
    · rw [← hj6]; exact h2 j hj
  · rw [bsetN_xy ha (by omega) hx hx, if_neg (by omega)]
    exact h3 x hx
theorem mxD.eq {B cd : Nat → Nat} {a : Nat} (h : mxD B cd (pr a a)) (ha : a < 6) : ∀ x y, x < a + 1 → y < a + 1 → B (x * 6 + y) = mB cd (x * 6 + y) := by
  intro x y hx1 hy1
  have lt : ∀ a, a < 6 → ∀ x, x < a + 1 → ∀ y, y < x → pr x y < pr a a := by decide
  rw [mB_at (by omega) (by omega)]
  by_cases q1 : y < x
  · rw [if_pos q1, (h.1 x y (by omega) q1 (lt a ha x hx1 y q1)).1]
  · rw [if_neg q1]
    by_cases q2 : x < y
    · rw [if_pos q2, (h.1 y x (by omega) q2 (lt a ha y hy1 x q2)).2]
    · rw [if_neg q2]
      have : y = x := by omega
      subst this
      exact h.2.2 y (by omega)
/-- a row's end -/
theorem en_row (hA : 1 ≤ A ∧ A ≤ 6) (hP : P = A * (A - 1) / 2) {V F0 : Nat → Int} (hV : ∀ a, a ≤ A → V a = mj_vs F0 (A - a) a) {m a r : Nat} {left : Int} {cd B : Nat → Nat} {F F' : Nat → Int} {acc : List Nat} (ha : a < A) (hr : pr a a + r = P) (hl : 0 ≤ left) (hcd : ∀ j, j < pr a a → cd j < 4) (hx : mxD B cd (pr a a)) (hF : ∀ j, j < A → F j = F' j ∧ 0 ≤ F j) (hF0 : ∀ j, a < j → j < A → F j = F0 j) (hacc : acc.length ≤ 500)
    (H : a + 1 < A → en A KM V m (a + 1) 0 left (pk cd (pr a a)) F B acc = es A P KM r (pr a a) left cd F' acc) :
    en A KM V (m + 1) a a left (pk cd (pr a a)) F B acc = if nbI (a + 1) KM (mB cd) (a + 1) 0 (fun _ => 0) (fun _ => false) 0 = none then acc else es A P KM r (pr a a) left cd F' acc := by
  obtain ⟨p15, pu, pn, pe⟩ := es_P hA hP
  have hbn := bt_nb (m := a + 1) (c := pk cd (pr a a)) (KM := KM) (B := B) (fun k hk => ow_row (by omega) (by omega) ((show ∀ a, a < 6 → ∀ k, k ≤ a → pr k k ≤ pr a a by decide) a (by omega) k (by omega)) hcd hx.1 hx.2.1) (a + 1) 0 (fun _ => 0) (fun _ => false) 0 (by omega)
  have hnc : nbI (a + 1) KM B (a + 1) 0 (fun _ => 0) (fun _ => false) 0 = nbI (a + 1) KM (mB cd) (a + 1) 0 (fun _ => 0) (fun _ => false) 0 := nbI_congr (fun _ _ => rfl) (hx.eq (by omega)) _ 0 _ _ 0 (by omega) (fun j hj => absurd hj (Nat.not_lt_zero j))
  have hcg : cgN B (a + 1) = cgN (mB cd) (a + 1) := cgN_congr (a + 1) (fun x y h1 h2 => hx.eq (by omega) x y h1 (by omega))
  rw [hnc] at hbn
  rw [en, if_pos (Nat.le_refl a)]
  by_cases hn : nbI (a + 1) KM (mB cd) (a + 1) 0 (fun _ => 0) (fun _ => false) 0 = none
  · rw [if_pos hn, if_neg]
    intro hok
    have := hbn.mp hn
    rw [hok.2.2] at this
    exact absurd this (by decide)
  · rw [if_neg hn]
    have hbf : btI (a + 1) KM B KM (pk cd (pr a a)) (a + 1) 0 (fun _ => 0) (fun _ => false) = false := by
      cases q : btI (a + 1) KM B KM (pk cd (pr a a)) (a + 1) 0 (fun _ => 0) (fun _ => false)
      · rfl
      · exact absurd (hbn.mpr q) hn
    have hVa := hV (a + 1) (by omega)
    by_cases last : A ≤ a + 1
    · have eA : a + 1 = A := by omega
      have ePa : pr a a = P := by
        have := (show ∀ n, n ≤ 6 → ∀ a, a < n → a + 1 = n → pr a a = n * (n - 1) / 2 by decide) A hA.2 a ha eA
        rw [this, hP]
      have r0 : r = 0 := by omega
      subst r0
      rw [eA, Nat.sub_self, mj_vs] at hVa
      have rc := rc_cg (cd := cd) hA hP
      rw [es, if_neg (show ¬ 500 < acc.length by omega), if_pos last]
      by_cases hok : en_ok A KM V a left (pk cd (pr a a)) B
      · rw [if_pos hok, if_pos, ePa]
        have h1 := hok.1
        have h2 := hok.2.1
        rw [hcg] at h2
        rw [eA] at h1 h2
        refine ⟨by omega, rc.mpr (by omega)⟩
      · rw [if_neg hok, if_neg]
        intro ⟨q1, q2⟩
        apply hok
        have q3 := rc.mp q2
        refine ⟨?_, ?_, hbf⟩
        · rw [eA]; omega
        · rw [hcg, eA]; omega
    · rw [if_neg last]
      by_cases hok : en_ok A KM V a left (pk cd (pr a a)) B
      · rw [if_pos hok]
        exact H (by omega)
      · rw [if_neg hok]
        have pa : pr (a + 1) 0 = pr a a := (show ∀ a, a < 6 → pr (a + 1) 0 = pr a a by decide) a (by omega)
        have hlt : pr a a < P := by
          have := (show ∀ n, n ≤ 6 → ∀ a, a < n → a + 1 < n → pr a a < n * (n - 1) / 2 by decide) A hA.2 a ha (by omega)
          omega
        have hup : up6 (pr a a) = a + 1 := by
          have := ul6_pr (a + 1) (by omega) 0 (by omega)
          rw [pa] at this
          exact this.1
        by_cases q : left ≤ V (a + 1)
        · refine (es_dead2 hA hP (k := a + 1) (by omega) r (pr a a) left cd F' acc hr (by omega) hl ?_).symm
          rw [pa, ← hcg]
          by_cases q2 : (cgN B (a + 1)).1 + ((A : Int) - ((a + 1 : Nat) : Int)) - 1 ≤ left
          · exact absurd ⟨q, q2, hbf⟩ hok
          · omega
        · refine (es_dead1 hA hP r (pr a a) left cd F' acc hr ?_).symm
          rw [if_neg (by omega), hup]
          rw [hVa, mj_vs_congr (F := F0) (F' := F') _ _ (fun j h1 h2 => by rw [← hF0 j (by omega) (by omega)]; exact (hF j (by omega)).1)] at q
          omega
theorem en_es (hA : 1 ≤ A ∧ A ≤ 6) (hP : P = A * (A - 1) / 2) {V F0 : Nat → Int} (hV : ∀ a, a ≤ A → V a = mj_vs F0 (A - a) a) : ∀ r,
    (∀ (m a b : Nat) (left : Int) (cd B : Nat → Nat) (F F' : Nat → Int) (acc : List Nat), 2 * r ≤ m → b < a → a < A → pr a b + r = P → 0 ≤ left → (∀ j, j < pr a b → cd j < 4) → mxD B cd (pr a b) → (∀ j, j < A → F j = F' j ∧ 0 ≤ F j) → (∀ j, a < j → j < A → F j = F0 j) → acc.length ≤ 501 →
      en A KM V m a b left (pk cd (pr a b)) F B acc = es A P KM r (pr a b) left cd F' acc) ∧
    (∀ (m a : Nat) (left : Int) (cd B : Nat → Nat) (F F' : Nat → Int) (acc : List Nat), 2 * r + 1 ≤ m → a < A → pr a a + r = P → 0 ≤ left → (∀ j, j < pr a a → cd j < 4) → mxD B cd (pr a a) → (∀ j, j < A → F j = F' j ∧ 0 ≤ F j) → (∀ j, a < j → j < A → F j = F0 j) → acc.length ≤ 500 →
      en A KM V m a a left (pk cd (pr a a)) F B acc = if nbI (a + 1) KM (mB cd) (a + 1) 0 (fun _ => 0) (fun _ => false) 0 = none then acc else es A P KM r (pr a a) left cd F' acc) := by
  obtain ⟨p15, pu, pn, pe⟩ := es_P hA hP
  have step : ∀ r, (∀ (m a b : Nat) (left : Int) (cd B : Nat → Nat) (F F' : Nat → Int) (acc : List Nat), 2 * r ≤ m → b < a → a < A → pr a b + r = P → 0 ≤ left → (∀ j, j < pr a b → cd j < 4) → mxD B cd (pr a b) → (∀ j, j < A → F j = F' j ∧ 0 ≤ F j) → (∀ j, a < j → j < A → F j = F0 j) → acc.length ≤ 501 →
      en A KM V m a b left (pk cd (pr a b)) F B acc = es A P KM r (pr a b) left cd F' acc) → (∀ (m a : Nat) (left : Int) (cd B : Nat → Nat) (F F' : Nat → Int) (acc : List Nat), 2 * r + 1 ≤ m → a < A → pr a a + r = P → 0 ≤ left → (∀ j, j < pr a a → cd j < 4) → mxD B cd (pr a a) → (∀ j, j < A → F j = F' j ∧ 0 ≤ F j) → (∀ j, a < j → j < A → F j = F0 j) → acc.length ≤ 500 →
      en A KM V m a a left (pk cd (pr a a)) F B acc = if nbI (a + 1) KM (mB cd) (a + 1) 0 (fun _ => 0) (fun _ => false) 0 = none then acc else es A P KM r (pr a a) left cd F' acc) := by
    intro r hi m a left cd B F F' acc hm ha hr hl hcd hx hF hF0 hacc
    obtain ⟨m, rfl⟩ : ∃ m', m = m' + 1 := ⟨m - 1, by omega⟩
    refine en_row hA hP hV ha hr hl hcd hx hF hF0 hacc (fun h1 => ?_)
    have pa : pr (a + 1) 0 = pr a a := (show ∀ a, a < 6 → pr (a + 1) 0 = pr a a by decide) a (by omega)
    have w := hi m (a + 1) 0 left cd B F F' acc (by omega) (by omega) h1 (by rw [pa]; exact hr) hl (by rw [pa]; exact hcd) (by rw [pa]; exact hx) hF (fun j j1 j2 => hF0 j (by omega) j2) (by omega)
    rw [pa] at w
    exact w
  intro r
  induction r with
  | zero =>
    refine ⟨fun m a b left cd B F F' acc hm hb ha hr => ?_, step 0 (fun m a b left cd B F F' acc hm hb ha hr => ?_)⟩
    · exfalso
      have := (show ∀ n, n ≤ 6 → ∀ a, a < n → ∀ b, b < a → pr a b < n * (n - 1) / 2 by decide) A hA.2 a ha b hb
      omega
    · exfalso
      have := (show ∀ n, n ≤ 6 → ∀ a, a < n → ∀ b, b < a → pr a b < n * (n - 1) / 2 by decide) A hA.2 a ha b hb
      omega
  | succ r ih =>
    have one : ∀ (m a b : Nat) (left : Int) (cd B : Nat → Nat) (F F' : Nat → Int) (acc : List Nat), 2 * (r + 1) ≤ m → b < a → a < A → pr a b + (r + 1) = P → 0 ≤ left → (∀ j, j < pr a b → cd j < 4) → mxD B cd (pr a b) → (∀ j, j < A → F j = F' j ∧ 0 ≤ F j) → (∀ j, a < j → j < A → F j = F0 j) → acc.length ≤ 501 →
      en A KM V m a b left (pk cd (pr a b)) F B acc = es A P KM (r + 1) (pr a b) left cd F' acc := by
      intro m a b left cd B F F' acc hm hb ha hr hl hcd hx hF hF0 hacc
      obtain ⟨m, rfl⟩ : ∃ m', m = m' + 1 := ⟨m - 1, by omega⟩
      obtain ⟨u1, u2⟩ := ul6_pr a (by omega) b hb
      have hp15 := pr_lt a (by omega) b hb
      have hFa := hF a ha
      have hFb := hF b (by omega)
      have ep : pr a (b + 1) = pr a b + 1 := by unfold pr; omega
      rw [en, if_neg (by omega), es, u1, u2, ← hFa.1, ← hFb.1]
      obtain ⟨t, ht⟩ : ∃ t, t = (mj_mo left F a b + 1).toNat := ⟨_, rfl⟩
      have htop : mj_mo left F a b = min (min 3 left) (min (F a) (F b)) := rfl
      have htt : (min (min 3 left) (min (F a) (F b)) + 1).toNat = t := by rw [ht, htop]
      rw [← ht, htt]
      rw [chR_esR (body := fun v acc => en A KM V m a (b + 1) (left - v) (pk cd (pr a b) ||| v * 2 ^ (mj_sh a + 2 * (a - 1 - b))) (mset F a b v) (bsetN B a b v) acc) t 0 t acc (by omega) (fun j acc _ hj => by
        have hmo : mj_mo left F a b - (j : Int) = ((t - 1 - j : Nat) : Int) := by omega
        rw [hmo, Int.toNat_natCast])]
      refine esR_congr t acc hacc (fun v acc hv ha5 => ?_) (fun v acc hv ha5 => ?_)
      · have hv1 : (v : Int) ≤ 3 ∧ (v : Int) ≤ left ∧ (v : Int) ≤ F a ∧ (v : Int) ≤ F b := by omega
        have hxs := hx.set (v := v) (by omega) hb (by omega)
        have hcd2 : ∀ j, j < pr a b + 1 → va_up cd (pr a b) v j < 4 := by
          intro j hj
          by_cases e : j = pr a b
          · subst e; rw [va_up_self]; omega
          · rw [va_up_ne _ _ e]; exact hcd j (by omega)
        have hF2 : ∀ j, j < A → mset F a b v j = mset F' a b v j ∧ 0 ≤ mset F a b v j := by
          intro j hj
          have h0 := hF j hj
          rw [mset_at, mset_at, h0.1, hFa.1, hFb.1]
          refine ⟨rfl, ?_⟩
          rw [← hFa.1, ← hFb.1, ← h0.1]
          split
          · omega
          · split
            · omega
            · exact h0.2
        have hF02 : ∀ j, a < j → j < A → mset F a b v j = F0 j := by
          intro j j1 j2
          rw [mset_at, if_neg (by omega), if_neg (by omega)]
          exact hF0 j j1 j2
        rw [sh_pr a (by omega) b hb, pk_or hp15 (by omega)]
        by_cases q : b + 1 < a
        · have w := ih.1 m a (b + 1) (left - v) (va_up cd (pr a b) v) (bsetN B a b v) (mset F a b v) (mset F' a b v) acc (by omega) q ha (by omega) (by omega) (by rw [ep]; exact hcd2) (by rw [ep]; exact hxs) hF2 hF02 (by omega)
          rw [ep] at w
          rw [w, if_neg]
          intro hb2
          have := hb2.1
          rw [u1, u2] at this
          omega
        · have eb : b + 1 = a := by omega
          rw [eb] at ep ⊢
          have w := ih.2 m a (left - v) (va_up cd (pr a b) v) (bsetN B a b v) (mset F a b v) (mset F' a b v) acc (by omega) ha (by omega) (by omega) (by rw [ep]; exact hcd2) (by rw [ep]; exact hxs) hF2 hF02 ha5
          rw [ep] at w
          rw [w]
          by_cases hn : nbI (a + 1) KM (mB (va_up cd (pr a b) v)) (a + 1) 0 (fun _ => 0) (fun _ => false) 0 = none
          · rw [if_pos hn, if_pos]
            refine ⟨by rw [u1, u2]; exact eb, ?_⟩
            rw [u1]
            exact hn
          · rw [if_neg hn, if_neg]
            intro hb2
            have := hb2.2
            rw [u1] at this
            exact hn this
      · split
        · exact ha5
        · exact es_le _ _ _ _ _ _ ha5
    exact ⟨one, step (r + 1) one⟩
end ES
theorem nbI_one (KM B : Nat → Nat) : nbI 1 KM B 1 0 (fun _ => 0) (fun _ => false) 0 ≠ none := by
  simp [nbI, nbR, mj_rw]
/-- the class's list is the reference's -/
theorem lst_eq {n h : Nat} {KM : Nat → Nat} {E : List Nat} (hn : 1 ≤ n ∧ n ≤ 6) (hE : mj_lst n h KM E) : E = mres n h KM := by
  obtain ⟨V, F, h1, h2, rfl⟩ := hE
  have hv0 : V 0 = mj_sum (fun j => mj_VAL (KM j)) n := by
    have := mj_vs_sum (F := F) n 0
    rw [Nat.zero_add, mj_sum] at this
    rw [h2 0 (by omega), Nat.sub_zero]
    rw [mj_sum_congr (f := fun j => mj_VAL (KM j)) (g := F) n (fun y hy => (h1 y hy).symm)]
    omega
  unfold enF mres
  rw [hv0]
  by_cases q : 0 ≤ mj_sum (fun j => mj_VAL (KM j)) n - h ∧ (mj_sum (fun j => mj_VAL (KM j)) n - h) % 2 = 0
  · rw [if_pos q, if_pos q]
    have w := (en_es (KM := KM) hn rfl h2 (n * (n - 1) / 2)).2 50 0 ((mj_sum (fun j => mj_VAL (KM j)) n - h) / 2) (fun _ => 0) (fun _ => 0) F (fun j => mj_VAL (KM j)) [] (by
      have := (show ∀ a, a ≤ 6 → a * (a - 1) / 2 ≤ 15 by decide) n hn.2
      omega) (by omega) (by show 0 + _ = _; omega) (by omega) (fun j hj => absurd hj (Nat.not_lt_zero j)) ⟨fun a b ha hb hp => absurd hp (Nat.not_lt_zero _), fun j hj => by show 0 < 4; omega, fun x hx => rfl⟩ (fun j hj => ⟨h1 j hj, by rw [h1 j hj]; exact (mj_VAL_r _).1⟩) (fun j j1 j2 => rfl) (by decide)
    rw [if_neg (nbI_one KM _)] at w
    exact w
  · rw [if_neg q, if_neg q]
