/-! the reference: the search, one pair after the other -/
def esR (f : Nat → List Nat → List Nat) : Nat → List Nat → List Nat
  | 0, acc => acc
  | v + 1, acc => if 500 < acc.length then acc else esR f v (f v acc)
/-- can the first rows be beaten, up to the upper atom of the pair p -/
def beat (KM cd : Nat → Nat) (p : Nat) : Prop := lo6 p + 1 = up6 p ∧ nbI (up6 p + 1) KM (mB cd) (up6 p + 1) 0 (fun _ => 0) (fun _ => false) 0 = none
noncomputable def es (A P : Nat) (KM : Nat → Nat) : Nat → Nat → Int → (Nat → Nat) → (Nat → Int) → List Nat → List Nat
  | 0, _, left, cd, _, acc => if 500 < acc.length then acc else if left ≤ 0 ∧ rcF cd P = 2 ^ A - 1 then acc ++ [pk cd P] else acc
  | r + 1, p, left, cd, F, acc => esR (fun v acc => @ite _ (beat KM (va_up cd p v) p) (Classical.propDecidable _) acc (es A P KM r (p + 1) (left - v) (va_up cd p v) (mset F (up6 p) (lo6 p) v) acc)) (min (min 3 left) (min (F (up6 p)) (F (lo6 p))) + 1).toNat acc
theorem esR_full {f : Nat → List Nat → List Nat} {acc : List Nat} (h : 500 < acc.length) : ∀ v, esR f v acc = acc := by
  intro v
  cases v with
  | zero => rfl
  | succ v => rw [esR, if_pos h]
theorem es_full {A P : Nat} {KM : Nat → Nat} {acc : List Nat} (h : 500 < acc.length) (r p : Nat) (left : Int) (cd : Nat → Nat) (F : Nat → Int) : es A P KM r p left cd F acc = acc := by
  cases r with
  | zero => rw [es, if_pos h]
  | succ r => rw [es, esR_full h]
theorem mB_congr {cd cd' : Nat → Nat} {m : Nat} (hm : m ≤ 6) (h : ∀ j, j < m * (m - 1) / 2 → cd j = cd' j) : ∀ x y, x < m → y < m → mB cd (x * 6 + y) = mB cd' (x * 6 + y) := by
  intro x y hx hy
  have t : ∀ m, m ≤ 6 → ∀ a, a < m → ∀ b, b < a → pr a b < m * (m - 1) / 2 := by decide
  rw [mB_at (by omega) (by omega), mB_at (by omega) (by omega)]
  split
  · exact h _ (t m hm x hx y (by omega))
  · split
    · exact h _ (t m hm y hy x (by omega))
    · rfl
theorem mj_rw_congrB {B B' ch : Nat → Nat} {a m : Nat} (h : ∀ x y, x < m → y < m → B (x * 6 + y) = B' (x * 6 + y)) (ha : a < m) : ∀ k, (∀ j, j < k → ch j < m) → mj_rw B ch a k = mj_rw B' ch a k := by
  intro k
  induction k with
  | zero => intro _; rfl
  | succ k ih => intro hc; rw [mj_rw, mj_rw, ih (fun j hj => hc j (by omega)), h a (ch k) ha (hc k (by omega))]
theorem nbR_congr {f g : Nat → Nat → Option Nat} : ∀ r a w, (∀ x w, x < a + r → f x w = g x w) → nbR f r a w = nbR g r a w := by
  intro r
  induction r with
  | zero => intro a w _; rfl
  | succ r ih =>
    intro a w h
    rw [nbR, nbR, h a w (by omega)]
    split
    · rfl
    · exact ih _ _ (fun x w hx => h x w (by omega))
theorem nbI_congr {m : Nat} {KM KM' B B' : Nat → Nat} (hK : ∀ j, j < m → KM j = KM' j) (h : ∀ x y, x < m → y < m → B (x * 6 + y) = B' (x * 6 + y)) : ∀ r k ch tk w, k + r = m → (∀ j, j < k → ch j < m) → nbI m KM B r k ch tk w = nbI m KM' B' r k ch tk w := by
  intro r
  induction r with
  | zero => intro k ch tk w _ _; rfl
  | succ r ih =>
    intro k ch tk w hk hc
    rw [nbI, nbI]
    refine nbR_congr m 0 w (fun x w hx => ?_)
    rw [hK x (by omega), hK k (by omega), mj_rw_congrB h (a := k) (by omega) k (fun j hj => by show j < m; omega), mj_rw_congrB h (a := x) (by omega) k hc, ih (k + 1) (va_up ch k x) (va_up tk x true) w (by omega) (fun j hj => by
      by_cases e : j = k
      · subst e; rw [va_up_self]; omega
      · rw [va_up_ne _ _ e]; exact hc j (by omega))]
/-- a state of the search: the digits before p are given, and what is to be tried next before q -/
def sxS (S0 S : mj_S) (A p q : Nat) (left : Int) (cd : Nat → Nat) (F nx : Nat → Int) (acc : List Nat) (rf sz wr am hy sr sg : Int) : Prop :=
  mj_fr S0 S [40, 45, 46, 47, 48, 49, 50] ∧ mo_st S rf sz wr am hy sr A left acc.length sg ∧ (∃ Cd, S.1 45 = .inl (0, 15, .inl (mj_z Cd)) ∧ (∀ j, j < p → Cd j = cd j) ∧ ∀ j, j < 15 → ∃ v : Nat, Cd j = v ∧ v < 4) ∧
  (∃ Fz, S.1 46 = .inl (0, 6, .inl (mj_z Fz)) ∧ ∀ j, j < A → Fz j = F j) ∧ (∃ Fr, S.1 48 = .inl (0, 7515, .inl (mj_z Fr)) ∧ frL Fr acc) ∧ (∃ Nb, S.1 49 = .inl (0, 7, .inl (mj_z Nb))) ∧ (∃ T, S.1 50 = .inl (2, 6, .inl (mj_z T))) ∧ ∃ Nx, S.1 47 = .inl (0, 16, .inl (mj_z Nx)) ∧ ∀ j, j < q → Nx j = nx j
/-- the search's end -/
def sxF (S0 S : mj_S) (A : Nat) (acc : List Nat) (rf sz wr am hy sr sg : Int) : Prop :=
  ∃ left : Int, ∃ cd F nx, sxS S0 S A 0 0 left cd F nx acc rf sz wr am hy sr sg
theorem sxS.le {S0 S : mj_S} {A p q p' q' : Nat} {left : Int} {cd cd' : Nat → Nat} {F nx nx' : Nat → Int} {acc : List Nat} {rf sz wr am hy sr sg : Int} (h : sxS S0 S A p q left cd F nx acc rf sz wr am hy sr sg) (hp : p' ≤ p) (hq : q' ≤ q) (hc : ∀ j, j < p' → cd j = cd' j) (hn : ∀ j, j < q' → nx j = nx' j) : sxS S0 S A p' q' left cd' F nx' acc rf sz wr am hy sr sg := by
  obtain ⟨h1, h2, ⟨Cd, h3, h4, h5⟩, h6, h7, h8, h9, Nx, h10, h11⟩ := h
  exact ⟨h1, h2, ⟨Cd, h3, fun j hj => by rw [h4 j (by omega), hc j hj], h5⟩, h6, h7, h8, h9, Nx, h10, fun j hj => by rw [h11 j (by omega), hn j hj]⟩
theorem mset_back {F Fz : Nat → Int} {a b A : Nat} {v : Int} (hab : a ≠ b) (h : ∀ j, j < A → Fz j = mset F a b v j) : ∀ j, j < A → mset Fz a b (-v) j = F j := by
  intro j hj
  have h1 := h j hj
  unfold mset at h1 ⊢
  by_cases jb : j = b
  · subst jb
    rw [va_up_self] at h1 ⊢
    omega
  · rw [va_up_ne _ _ jb] at h1 ⊢
    by_cases ja : j = a
    · subst ja
      rw [va_up_self] at h1 ⊢
      omega
    · rw [va_up_ne _ _ ja] at h1 ⊢
      exact h1
theorem mset_at {F : Nat → Int} {a b : Nat} {v : Int} (j : Nat) : mset F a b v j = if j = b then F b - v else if j = a then F a - v else F j := by
  unfold mset
  by_cases jb : j = b
  · subst jb; rw [va_up_self, if_pos rfl]
  · rw [va_up_ne _ _ jb, if_neg jb]
    by_cases ja : j = a
    · subst ja; rw [va_up_self, if_pos rfl]
    · rw [va_up_ne _ _ ja, if_neg ja]
section MO6
variable {Γ : mj_G} {d A P : Nat} {S0 : mj_S} {rf sz wr am hy sr sg : Int} {KM : Nat → Nat} {Kd : Nat → Int}
/-- one pair back: what was bound is loosed -/
theorem m_Mo_back {S : mj_S} {p v : Nat} {left : Int} {cd : Nat → Nat} {F nx : Nat → Int} {acc : List Nat} {Q : mj_S → Prop} {x3 : Value} (hw0 : S0.2.1 = 65) (hp : p < 15) (hA : up6 p < A) (hA6 : A ≤ 6) (hx : sxS S0 S A (p + 1) (p + 1) (left - v) (va_up cd p v) (mset F (up6 p) (lo6 p) v) nx acc rf sz wr am hy sr sg) (g3 : c1 x3) (hd : 4 ≤ d)
    (H : ∀ S', sxS S0 S' A p (p + 1) left cd F nx acc rf sz wr am hy sr sg → mj_Ok Γ d M_Mo_search 0 0 23 [.ref 40, .int (iZ P), .int (iZ p), x3] [] S' (mj_V Q)) :
    mj_Ok Γ d M_Mo_search 0 0 47 [.ref 40, .int (iZ P), .int (iZ ((p : Int) + 1)), x3] [] S (mj_V Q) ∧ mj_Ok Γ d M_Mo_search 0 0 111 [.ref 40, .int (iZ P), .int (iZ ((p : Int) + 1)), x3] [] S (mj_V Q) := by
  obtain ⟨h1, h2, ⟨Cd, h3, h4, h5⟩, ⟨Fz, h6, h7⟩, h8, h9, h10, Nx, h11, h12⟩ := hx
  obtain ⟨u1, u2, u3⟩ := ul6 p hp
  have h20 : S.1 40 = _ := h2
  have hw := h1.w.trans hw0
  have hcp : Cd p = (v : Int) := by rw [h4 p (by omega), va_up_self]
  have fin : ∀ S', mj_fr S S' [40, 46] → mo_st S' rf sz wr am hy sr A (left - v - -v) acc.length sg → S'.1 46 = .inl (0, 6, .inl (mj_z (mset Fz (up6 p) (lo6 p) (-v)))) → sxS S0 S' A p (p + 1) left cd F nx acc rf sz wr am hy sr sg := by
    intro S' f' e1 e2
    rw [show left - (v : Int) - -v = left by omega] at e1
    obtain ⟨Fr, q1, q2⟩ := h8
    obtain ⟨Nb, q3⟩ := h9
    obtain ⟨T, q4⟩ := h10
    exact ⟨h1.tr f' (by simp) (by simp), e1, ⟨Cd, f'.at h3 (by simp), fun j hj => by rw [h4 j (by omega), va_up_ne _ _ (by omega)], h5⟩, ⟨_, e2, mset_back (by omega) h7⟩, ⟨Fr, f'.at q1 (by simp), q2⟩, ⟨Nb, f'.at q3 (by simp)⟩, ⟨T, f'.at q4 (by simp)⟩, Nx, f'.at h11 (by simp), h12⟩
  constructor
  · refine mz_inc2 d_Mo_search_47 (by unfold mj_c1; simp only [List.all_cons, g3]; rfl) ?_
    refine mj_iload_n d_Mo_search_50 rfl ?_
    refine mz_if_lt 23 d_Mo_search_51 (by decide) (by omega) (fun c_51 => ?_) (fun c_51 => ?_)
    · omega
    · rw [show (p : Int) + 1 + -1 = p by omega]
      refine mj_aload_n d_Mo_search_54 rfl ?_
      refine mj_iload_n d_Mo_search_55 rfl ?_
      refine mj_aload_n d_Mo_search_56 rfl ?_
      refine mj_get (ci := 9) (j := 11) d_Mo_search_57 rfl w_Mo_27 (by decide) (by omega) (by assumption) rfl ?_
      refine mj_iload_n d_Mo_search_60 rfl ?_
      refine mz_iald (j := p) d_Mo_search_61 (by omega) (by assumption) (by omega) (by omega) ?_
      rw [hcp]
      refine mz_ineg d_Mo_search_62 ?_
      refine mz_callV2v (ci := 9) d_Mo_search_63 (m_Mo_change (d := 2) hw h2 h6 u2 u1 (by rw [u3]) (by omega)) cw_Mo_change lk_Mo_148 rfl rfl (by omega) (by assumption) (by omega) rfl (fun S_63 h_63 => ?_)
      refine mj_goto 23 d_Mo_search_66 (by decide) ?_
      exact H _ (fin _ h_63.1 h_63.2.1 h_63.2.2)
  · refine mz_inc2 d_Mo_search_111 (by unfold mj_c1; simp only [List.all_cons, g3]; rfl) ?_
    refine mj_iload_n d_Mo_search_114 rfl ?_
    refine mz_if_lt 201 d_Mo_search_115 (by decide) (by omega) (fun c_115 => ?_) (fun c_115 => ?_)
    · omega
    · rw [show (p : Int) + 1 + -1 = p by omega]
      refine mj_aload_n d_Mo_search_118 rfl ?_
      refine mj_iload_n d_Mo_search_119 rfl ?_
      refine mj_aload_n d_Mo_search_120 rfl ?_
      refine mj_get (ci := 9) (j := 11) d_Mo_search_121 rfl w_Mo_27 (by decide) (by omega) (by assumption) rfl ?_
      refine mj_iload_n d_Mo_search_124 rfl ?_
      refine mz_iald (j := p) d_Mo_search_125 (by omega) (by assumption) (by omega) (by omega) ?_
      rw [hcp]
      refine mz_ineg d_Mo_search_126 ?_
      refine mz_callV2v (ci := 9) d_Mo_search_127 (m_Mo_change (d := 2) hw h2 h6 u2 u1 (by rw [u3]) (by omega)) cw_Mo_change lk_Mo_148 rfl rfl (by omega) (by assumption) (by omega) rfl (fun S_127 h_127 => ?_)
      refine mj_goto 201 d_Mo_search_130 (by decide) ?_
      refine mj_goto 23 d_Mo_search_201 (by decide) ?_
      exact H _ (fin _ h_127.1 h_127.2.1 h_127.2.2)
theorem m_Mo_search {left0 : Int} {F0 Nx0 Fz0 Cd0 Fr0 Nb0 T0 : Nat → Int} (hw0 : S0.2.1 = 65) (h : mo_st S0 rf sz wr am hy sr A left0 0 sg) (h41 : S0.1 44 = .inl (0, 6, .inl (mj_z Kd))) (hK : ∀ j, j < A → Kd j = KM j ∧ KM j < 1000) (h42 : S0.1 45 = .inl (0, 15, .inl (mj_z Cd0))) (hC0 : ∀ j, j < 15 → ∃ v : Nat, Cd0 j = v ∧ v < 4) (h43 : S0.1 46 = .inl (0, 6, .inl (mj_z Fz0))) (hF0 : ∀ j, j < A → Fz0 j = F0 j ∧ 0 ≤ F0 j ∧ F0 j ≤ 100) (h44 : S0.1 47 = .inl (0, 16, .inl (mj_z Nx0))) (h45 : S0.1 48 = .inl (0, 7515, .inl (mj_z Fr0))) (h46 : S0.1 49 = .inl (0, 7, .inl (mj_z Nb0))) (h47 : S0.1 50 = .inl (2, 6, .inl (mj_z T0)))
    (hA : 1 ≤ A ∧ A ≤ 6) (hP : P = A * (A - 1) / 2) (hl : 0 ≤ left0 ∧ left0 ≤ 100) (hd : 4 ≤ d) :
    mj_Met Γ d y_Mo_search M_Mo_search [.ref 40] S0 0 0 (mj_V fun S' => sxF S0 S' A (es A P KM P 0 left0 (fun _ => 0) F0 []) rf sz wr am hy sr sg) := by
  have hP15 : P ≤ 15 := by
    rw [hP]
    exact (show ∀ a, a ≤ 6 → a * (a - 1) / 2 ≤ 15 by decide) A hA.2
  have hupA : ∀ p, p < P → up6 p < A := by
    rw [hP]
    exact (show ∀ a, a ≤ 6 → ∀ p, p < a * (a - 1) / 2 → up6 p < a by decide) A hA.2
  have level : ∀ (r p : Nat) (left : Int) (cd : Nat → Nat) (F nx : Nat → Int) (acc : List Nat) (S : mj_S) (x3 : Value) (G : List Nat → List Nat), p + r = P → (0 ≤ left ∧ left ≤ 100) → (∀ j, j < A → 0 ≤ F j ∧ F j ≤ 100) → (∀ j, j < p → cd j < 4) → acc.length ≤ 501 → nx p = 3 → c1 x3 → (∀ l : List Nat, 500 < l.length → G l = l) →
      sxS S0 S A p (p + 1) left cd F nx acc rf sz wr am hy sr sg →
      (∀ acc' S' y3, acc'.length ≤ 501 → c1 y3 → sxS S0 S' A p p left cd F nx acc' rf sz wr am hy sr sg → mj_Ok Γ d M_Mo_search 0 0 47 [.ref 40, .int (iZ P), .int (iZ p), y3] [] S' (mj_V fun S' => sxF S0 S' A (G acc') rf sz wr am hy sr sg) ∧ mj_Ok Γ d M_Mo_search 0 0 111 [.ref 40, .int (iZ P), .int (iZ p), y3] [] S' (mj_V fun S' => sxF S0 S' A (G acc') rf sz wr am hy sr sg)) →
      mj_Ok Γ d M_Mo_search 0 0 23 [.ref 40, .int (iZ P), .int (iZ p), x3] [] S (mj_V fun S' => sxF S0 S' A (G (es A P KM r p left cd F acc)) rf sz wr am hy sr sg) := by
    intro r
    induction r with
    | zero =>
      intro p left cd F nx acc S x3 G hp hlf hF hcd hal hnx g3 hG hx hb
      have : p = P := by omega
      subst this
      have hx0 := hx
      obtain ⟨h1, h2, ⟨Cd, h3, h4, h5⟩, ⟨Fz, h6, h7⟩, ⟨Fr, h8, h8'⟩, ⟨Nb, h9⟩, ⟨T, h10⟩, Nx, h11, h12⟩ := hx
      have h20 : S.1 40 = _ := h2
      have hw := h1.w.trans hw0
      refine mj_iload_n d_Mo_search_23 rfl ?_
      refine mz_if_lt 204 d_Mo_search_24 (by decide) (by omega) (fun c_24 => ?_) (fun c_24 => ?_)
      · omega
      · refine mj_aload_n d_Mo_search_27 rfl ?_
        refine mj_get (ci := 9) (j := 15) d_Mo_search_28 rfl w_Mo_120 (by decide) (by omega) (by assumption) rfl ?_
        refine mz_sipush d_Mo_search_31 (by decide) ?_
        refine mz_icmp_gt 204 d_Mo_search_34 (by decide) (by omega) (by omega) (fun c_34 => ?_) (fun c_34 => ?_)
        · refine mz_vret d_Mo_search_204 rfl ?_
          rw [es_full (by omega), hG _ (by omega)]
          exact ⟨_, _, _, _, hx0.le (by omega) (by omega) (fun j _ => rfl) (fun j _ => rfl)⟩
        · refine mj_iload_n d_Mo_search_37 rfl ?_
          refine mj_iload_n d_Mo_search_38 rfl ?_
          refine mz_icmp_ne 69 d_Mo_search_39 (by decide) (by omega) (by omega) (fun c_39 => ?_) (fun c_39 => ?_)
          · omega
          · refine mj_aload_n d_Mo_search_42 rfl ?_
            refine mj_iload_n d_Mo_search_43 rfl ?_
            refine mz_callV1v (ci := 9) d_Mo_search_44 (m_Mo_keep (d := 3) (cd := cd) hw h2 h3 h8 hA.2 hP15 (fun j hj => ⟨h4 j hj, hcd j hj⟩) (by omega) (by omega) h8' (by omega)) cw_Mo_keep lk_Mo_144 rfl rfl (by omega) (by assumption) (by omega) rfl (fun S_44 h_44 => ?_)
            obtain ⟨k1, k2, Fr', k3, k4⟩ := h_44
            rw [show es A p KM 0 p left cd F acc = (if left ≤ 0 ∧ rcF cd p = 2 ^ A - 1 then acc ++ [pk cd p] else acc) by rw [es, if_neg (by omega)]]
            obtain ⟨acc2, ha2⟩ : ∃ acc2, acc2 = (if left ≤ 0 ∧ rcF cd p = 2 ^ A - 1 then acc ++ [pk cd p] else acc) := ⟨_, rfl⟩
            rw [← ha2] at k2 k4 ⊢
            have hl2 : acc2.length ≤ 501 := by
              rw [ha2]
              split
              · rw [List.length_append]; show acc.length + 1 ≤ 501; omega
              · omega
            exact (hb acc2 S_44 x3 hl2 g3 ⟨h1.tr k1 (by simp) (by simp), k2, ⟨Cd, k1.at h3 (by simp), h4, h5⟩, ⟨Fz, k1.at h6 (by simp), h7⟩, ⟨Fr', k3, k4⟩, ⟨Nb, k1.at h9 (by simp)⟩, ⟨T, k1.at h10 (by simp)⟩, Nx, k1.at h11 (by simp), fun j hj => h12 j (by omega)⟩).1
    | succ r ih =>
      intro p left cd F nx acc S x3 G hp hlf hF hcd hal hnx g3 hG hx hb
      obtain ⟨f, hf⟩ : ∃ f : Nat → List Nat → List Nat, f = (fun v acc => @ite _ (beat KM (va_up cd p v) p) (Classical.propDecidable _) acc (es A P KM r (p + 1) (left - v) (va_up cd p v) (mset F (up6 p) (lo6 p) v) acc)) := ⟨_, rfl⟩
      rw [es, ← hf]
      have hp15 : p < 15 := by omega
      obtain ⟨u1, u2, u3⟩ := ul6 p hp15
      have huA := hupA p (by omega)
      have hFa := hF (up6 p) huA
      have hFb := hF (lo6 p) (by omega)
      have inner : ∀ (u : Nat) (nx2 : Nat → Int) (acc : List Nat) (S : mj_S) (x3 : Value), u ≤ 4 → (∀ j, j < p → nx2 j = nx j) → nx2 p = (u : Int) - 1 → acc.length ≤ 501 → c1 x3 → sxS S0 S A p (p + 1) left cd F nx2 acc rf sz wr am hy sr sg →
          mj_Ok Γ d M_Mo_search 0 0 23 [.ref 40, .int (iZ P), .int (iZ p), x3] [] S (mj_V fun S' => sxF S0 S' A (G (esR f (min (min ((u : Int) - 1) left) (min (F (up6 p)) (F (lo6 p))) + 1).toNat acc)) rf sz wr am hy sr sg) := by
        intro u
        induction u using Nat.strongRecOn with
        | ind u ihu =>
        intro nx2 acc S x3 hu4 hn2 hnp hal g3 hx
        have hx0 := hx
        obtain ⟨h1, h2, ⟨Cd, h3, h4, h5⟩, ⟨Fz, h6, h7⟩, ⟨Fr, h8, h8'⟩, ⟨Nb, h9⟩, ⟨T, h10⟩, Nx, h11, h12⟩ := hx
        have h20 : S.1 40 = _ := h2
        have hw := h1.w.trans hw0
        have ez1 := h7 (up6 p) huA
        have ez2 := h7 (lo6 p) (by omega)
        have en := h12 p (by omega)
        rw [hnp] at en
        refine mj_iload_n d_Mo_search_23 rfl ?_
        refine mz_if_lt 204 d_Mo_search_24 (by decide) (by omega) (fun c_24 => ?_) (fun c_24 => ?_)
        · omega
        · refine mj_aload_n d_Mo_search_27 rfl ?_
          refine mj_get (ci := 9) (j := 15) d_Mo_search_28 rfl w_Mo_120 (by decide) (by omega) (by assumption) rfl ?_
          refine mz_sipush d_Mo_search_31 (by decide) ?_
          refine mz_icmp_gt 204 d_Mo_search_34 (by decide) (by omega) (by omega) (fun c_34 => ?_) (fun c_34 => ?_)
          · refine mz_vret d_Mo_search_204 rfl ?_
            rw [esR_full (by omega), hG _ (by omega)]
            exact ⟨_, _, _, _, hx0.le (by omega) (by omega) (fun j _ => rfl) (fun j _ => rfl)⟩
          · refine mj_iload_n d_Mo_search_37 rfl ?_
            refine mj_iload_n d_Mo_search_38 rfl ?_
            refine mz_icmp_ne 69 d_Mo_search_39 (by decide) (by omega) (by omega) (fun c_39 => ?_) (fun c_39 => ?_)
            · refine mj_aload_n d_Mo_search_69 rfl ?_
              refine mj_get (ci := 9) (j := 14) d_Mo_search_70 rfl w_Mo_33 (by decide) (by omega) (by assumption) rfl ?_
              refine mj_iload_n d_Mo_search_73 rfl ?_
              refine mz_iald (j := p) d_Mo_search_74 (by omega) (by assumption) (by omega) (by omega) ?_
              rw [en]
              refine mj_aload_n d_Mo_search_75 rfl ?_
              refine mj_get (ci := 9) (j := 13) d_Mo_search_76 rfl w_Mo_123 (by decide) (by omega) (by assumption) rfl ?_
              refine mz_callS2i d_Mo_search_79 (m_Mo_least (d := 0) (by omega) (by omega)) cw_Mo_least lk_Mo_152 (by omega) rfl (fun z_79 S_79 h_79 => ?_)
              obtain ⟨e79, rfl⟩ := h_79
              rw [e79]
              refine mj_aload_n d_Mo_search_82 rfl ?_
              refine mj_get (ci := 9) (j := 12) d_Mo_search_83 rfl w_Mo_30 (by decide) (by omega) (by assumption) rfl ?_
              refine mj_iload_n d_Mo_search_86 rfl ?_
              refine mz_callS1i d_Mo_search_87 (m_Mo_upper (d := 0) u2 u1 (by rw [u3])) cw_Mo_upper lk_Mo_138 (by omega) rfl (fun z_87 S_87 h_87 => ?_)
              obtain ⟨e87, rfl⟩ := h_87
              rw [e87]
              refine mz_iald (j := up6 p) d_Mo_search_90 (by omega) (by assumption) (by omega) (by omega) ?_
              refine mj_aload_n d_Mo_search_91 rfl ?_
              refine mj_get (ci := 9) (j := 12) d_Mo_search_92 rfl w_Mo_30 (by decide) (by omega) (by assumption) rfl ?_
              refine mj_iload_n d_Mo_search_95 rfl ?_
              refine mz_callS1i d_Mo_search_96 (m_Mo_lower (d := 1) u2 u1 (by rw [u3]) (by omega)) cw_Mo_lower lk_Mo_141 (by omega) rfl (fun z_96 S_96 h_96 => ?_)
              obtain ⟨e96, rfl⟩ := h_96
              rw [e96]
              refine mz_iald (j := lo6 p) d_Mo_search_99 (by omega) (by assumption) (by omega) (by omega) ?_
              rw [ez1, ez2]
              refine mz_callS2i d_Mo_search_100 (m_Mo_least (d := 0) (by omega) (by omega)) cw_Mo_least lk_Mo_152 (by omega) rfl (fun z_100 S_100 h_100 => ?_)
              obtain ⟨e100, rfl⟩ := h_100
              rw [e100]
              refine mz_callS2i d_Mo_search_103 (m_Mo_least (d := 0) (by omega) (by omega)) cw_Mo_least lk_Mo_152 (by omega) rfl (fun z_103 S_103 h_103 => ?_)
              obtain ⟨e103, ez⟩ := h_103
              rw [e103, ← ez]
              have zr : z_103 ≤ (u : Int) - 1 ∧ z_103 ≤ left ∧ z_103 ≤ F (up6 p) ∧ z_103 ≤ F (lo6 p) ∧ -1 ≤ z_103 := by omega
              clear ez
              refine mz_ist3 d_Mo_search_106 (by unfold mj_c1; simp only [List.all_cons, g3]; rfl) ?_
              refine mj_iload_n d_Mo_search_107 rfl ?_
              refine mz_if_ge 133 d_Mo_search_108 (by decide) (by omega) (fun c_108 => ?_) (fun c_108 => ?_)
              · -- a bond of z_103 lines is tried
                obtain ⟨v, rfl⟩ : ∃ v : Nat, z_103 = v := ⟨z_103.toNat, by omega⟩
                rw [show ((v : Int) + 1).toNat = v + 1 by omega, esR, if_neg (by omega)]
                have hv4 : v < 4 := by omega
                refine mj_aload_n d_Mo_search_133 rfl ?_
                refine mj_get (ci := 9) (j := 14) d_Mo_search_134 rfl w_Mo_33 (by decide) (by omega) (by assumption) rfl ?_
                refine mj_iload_n d_Mo_search_137 rfl ?_
                refine mj_iload_n d_Mo_search_138 rfl ?_
                refine mz_iconst d_Mo_search_139 ?_
                refine mz_isub d_Mo_search_140 ?_
                refine mz_iast (j := p) d_Mo_search_141 (by omega) (by assumption) (by omega) (by omega) (fun S_141 w_141 e_141 f_141 => ?_)
                have h20 := f_141.at h20 (by simp)
                have h3 := f_141.at h3 (by simp)
                have h6 := f_141.at h6 (by simp)
                refine mj_aload_n d_Mo_search_142 rfl ?_
                refine mj_get (ci := 9) (j := 11) d_Mo_search_143 rfl w_Mo_27 (by decide) (by omega) (by assumption) rfl ?_
                refine mj_iload_n d_Mo_search_146 rfl ?_
                refine mj_iload_n d_Mo_search_147 rfl ?_
                refine mz_iast (j := p) d_Mo_search_148 (by omega) (by assumption) (by omega) (by omega) (fun S_148 w_148 e_148 f_148 => ?_)
                have h20 := f_148.at h20 (by simp)
                have h6 := f_148.at h6 (by simp)
                have e_141 := f_148.at e_141 (by simp)
                refine mj_aload_n d_Mo_search_149 rfl ?_
                refine mj_iload_n d_Mo_search_150 rfl ?_
                refine mj_iload_n d_Mo_search_151 rfl ?_
                refine mz_callV2v (ci := 9) d_Mo_search_152 (m_Mo_change (d := 2) (by omega) h20 h6 u2 u1 (by rw [u3]) (by omega)) cw_Mo_change lk_Mo_148 rfl rfl (by omega) (by assumption) (by omega) rfl (fun S_152 h_152 => ?_)
                obtain ⟨k1, k2, k3⟩ := h_152
                have f3 : mj_fr S S_148 [45, 47] := f_141.tr f_148 (by simp) (by simp)
                have f4 : mj_fr S S_152 [40, 45, 46, 47] := f3.tr k1 (by simp) (by simp)
                have hx2 : sxS S0 S_152 A (p + 1) (p + 1) (left - v) (va_up cd p v) (mset F (up6 p) (lo6 p) v) (va_up nx2 p ((v : Int) - 1)) acc rf sz wr am hy sr sg := by
                  refine ⟨h1.tr f4 (by simp) (by simp), k2, ⟨_, k1.at e_148 (by simp), fun j hj => ?_, fun j hj => ?_⟩, ⟨_, k3, fun j hj => ?_⟩, ⟨Fr, f4.at h8 (by simp), h8'⟩, ⟨Nb, f4.at h9 (by simp)⟩, ⟨T, f4.at h10 (by simp)⟩, _, k1.at e_141 (by simp), fun j hj => ?_⟩
                  · by_cases e : j = p
                    · subst e; rw [va_up_self, va_up_self]
                    · rw [va_up_ne _ _ e, va_up_ne _ _ e]; exact h4 j (by omega)
                  · by_cases e : j = p
                    · subst e; rw [va_up_self]; exact ⟨v, rfl, hv4⟩
                    · rw [va_up_ne _ _ e]; exact h5 j hj
                  · rw [mset_at, mset_at, h7 j hj, ez1, ez2]
                  · by_cases e : j = p
                    · subst e; rw [va_up_self, va_up_self]
                    · rw [va_up_ne _ _ e, va_up_ne _ _ e]; exact h12 j (by omega)
                have hrest : (min (min ((v : Int) - 1) left) (min (F (up6 p)) (F (lo6 p))) + 1).toNat = v := by omega
                have again : ∀ (acc2 : List Nat) (S2 : mj_S) (y3 : Value), acc2.length ≤ 501 → c1 y3 → sxS S0 S2 A p (p + 1) left cd F (va_up nx2 p ((v : Int) - 1)) acc2 rf sz wr am hy sr sg → mj_Ok Γ d M_Mo_search 0 0 23 [.ref 40, .int (iZ P), .int (iZ p), y3] [] S2 (mj_V fun S' => sxF S0 S' A (G (esR f v acc2)) rf sz wr am hy sr sg) := by
                  intro acc2 S2 y3 ha2 q3 hx3
                  have w := ihu v (by omega) (va_up nx2 p ((v : Int) - 1)) acc2 S2 y3 (by omega) (fun j hj => by rw [va_up_ne _ _ (by omega)]; exact hn2 j hj) (va_up_self _ _ _) ha2 q3 hx3
                  rw [hrest] at w
                  exact w
                have go : ¬ beat KM (va_up cd p v) p → ∀ S2, mj_fr S_152 S2 [49, 50] → (∃ Nb, S2.1 49 = .inl (0, 7, .inl (mj_z Nb))) → (∃ T, S2.1 50 = .inl (2, 6, .inl (mj_z T))) → mj_Ok Γ d M_Mo_search 0 0 191 [.ref 40, .int (iZ P), .int (iZ p), .int (iZ v)] [] S2 (mj_V fun S' => sxF S0 S' A (G (esR f v (f v acc))) rf sz wr am hy sr sg) := by
                  intro hnb S2 f2 ⟨Nb2, n2⟩ ⟨T2, t2⟩
                  have hfv : f v acc = es A P KM r (p + 1) (left - v) (va_up cd p v) (mset F (up6 p) (lo6 p) v) acc := by
                    rw [hf]
                    exact if_neg hnb
                  rw [hfv]
                  obtain ⟨m1, m2, ⟨Cd2, m3, m4, m5⟩, ⟨Fz2, m6, m7⟩, ⟨Fr2, m8, m8'⟩, -, -, Nx2, m11, m12⟩ := hx2
                  have m20 := f2.at m2 (by simp)
                  have m110 := f2.at m11 (by simp)
                  have hw2 := (m1.tr f2 (l := [40, 45, 46, 47, 48, 49, 50]) (by simp) (by simp)).w.trans hw0
                  refine mz_inc2 d_Mo_search_191 (rfl) ?_
                  refine mj_aload_n d_Mo_search_194 rfl ?_
                  refine mj_get (ci := 9) (j := 14) d_Mo_search_195 rfl w_Mo_33 (by decide) (by omega) (by assumption) rfl ?_
                  refine mj_iload_n d_Mo_search_198 rfl ?_
                  refine mz_iconst d_Mo_search_199 ?_
                  refine mz_iast (j := p + 1) d_Mo_search_200 (by omega) (by assumption) (by omega) (by omega) (fun S_200 w_200 e_200 f_200 => ?_)
                  refine mj_goto 23 d_Mo_search_201 (by decide) ?_
                  have f5 : mj_fr S_152 S_200 [47, 49, 50] := f2.tr f_200 (by simp) (by simp)
                  have w := ih (p + 1) (left - v) (va_up cd p v) (mset F (up6 p) (lo6 p) v) (va_up (va_up nx2 p ((v : Int) - 1)) (p + 1) 3) acc S_200 (.int (iZ v)) (fun l => G (esR f v l)) (by omega) (by omega) (fun j hj => by
                    rw [mset_at]
                    have := hF j hj
                    split
                    · omega
                    · split <;> omega) (fun j hj => by
                    by_cases e : j = p
                    · subst e; rw [va_up_self]; exact hv4
                    · rw [va_up_ne _ _ e]; exact hcd j (by omega)) hal (va_up_self _ _ _) rfl (fun l hl => by rw [esR_full hl, hG l hl]) ⟨m1.tr f5 (by simp) (by simp), f5.at m2 (by simp), ⟨Cd2, f5.at m3 (by simp), m4, m5⟩, ⟨Fz2, f5.at m6 (by simp), m7⟩, ⟨Fr2, f5.at m8 (by simp), m8'⟩, ⟨Nb2, f_200.at n2 (by simp)⟩, ⟨T2, f_200.at t2 (by simp)⟩, _, e_200, fun j hj => by
                    by_cases e : j = p + 1
                    · subst e; rw [va_up_self, va_up_self]
                    · rw [va_up_ne _ _ e, va_up_ne _ _ e]; exact m12 j (by omega)⟩ (fun acc' S' y3 ha' q3 hx' => by
                    have b := m_Mo_back (Γ := Γ) (d := d) (P := P) (Q := fun S' => sxF S0 S' A (G (esR f v acc')) rf sz wr am hy sr sg) (x3 := y3) hw0 hp15 huA hA.2 (hx'.le (Nat.le_refl _) (Nat.le_refl _) (fun j _ => rfl) (fun j hj => va_up_ne _ _ (by omega))) q3 hd (fun S2 hx2 => again acc' S2 y3 ha' q3 hx2)
                    rw [show ((p + 1 : Nat) : Int) = (p : Int) + 1 by omega]
                    exact b)
                  rw [show ((p + 1 : Nat) : Int) = (p : Int) + 1 by omega] at w
                  exact w
                have hw2 := f4.w.trans hw
                refine mj_iload_n d_Mo_search_155 rfl ?_
                refine mz_callS1i d_Mo_search_156 (m_Mo_lower (d := 1) u2 u1 (by rw [u3]) (by omega)) cw_Mo_lower lk_Mo_141 (by omega) rfl (fun z_156 S_156 h_156 => ?_)
                obtain ⟨e156, rfl⟩ := h_156
                rw [e156]
                refine mj_iload_n d_Mo_search_159 rfl ?_
                refine mz_callS1i d_Mo_search_160 (m_Mo_upper (d := 0) u2 u1 (by rw [u3])) cw_Mo_upper lk_Mo_138 (by omega) rfl (fun z_160 S_160 h_160 => ?_)
                obtain ⟨e160, rfl⟩ := h_160
                rw [e160]
                refine mz_iconst d_Mo_search_163 ?_
                refine mz_isub d_Mo_search_164 ?_
                refine mz_icmp_ne 191 d_Mo_search_165 (by decide) (by omega) (by omega) (fun c_165 => ?_) (fun c_165 => ?_)
                · obtain ⟨-, -, -, -, -, n9, n10, -⟩ := id hx2
                  exact go (fun hb => by have := hb.1; omega) S_152 (mj_fr.rf _ _) n9 n10
                · obtain ⟨m1, m2, ⟨Cd2, m3, m4, m5⟩, ⟨Fz2, m6, m7⟩, ⟨Fr2, m8, m8'⟩, ⟨Nb2, m9⟩, ⟨T2, m10⟩, Nx2, m11, m12⟩ := id hx2
                  have hcx : ∀ j, j < 15 → Cd2 j = ((Cd2 j).toNat : Nat) ∧ (Cd2 j).toNat < 4 := fun j hj => by
                    obtain ⟨x, e1, e2⟩ := m5 j hj
                    omega
                  have hnb : nbI (up6 p + 1) KM (mB (fun j => (Cd2 j).toNat)) (up6 p + 1) 0 (fun _ => 0) (fun _ => false) 0 = nbI (up6 p + 1) KM (mB (va_up cd p v)) (up6 p + 1) 0 (fun _ => 0) (fun _ => false) 0 := by
                    refine nbI_congr (fun _ _ => rfl) (mB_congr (by omega) (fun j hj => ?_)) _ 0 _ _ 0 (by omega) (fun j hj => absurd hj (Nat.not_lt_zero j))
                    have e1 : ∀ p, p < 15 → lo6 p = up6 p - 1 → (up6 p + 1) * (up6 p + 1 - 1) / 2 = p + 1 := by decide
                    have e2 := e1 p hp15 (by omega)
                    have e3 := m4 j (by omega)
                    show (Cd2 j).toNat = _
                    omega
                  refine mj_aload_n d_Mo_search_168 rfl ?_
                  refine mj_iload_n d_Mo_search_169 rfl ?_
                  refine mz_callS1i d_Mo_search_170 (m_Mo_upper (d := 0) u2 u1 (by rw [u3])) cw_Mo_upper lk_Mo_138 (by omega) rfl (fun z_170 S_170 h_170 => ?_)
                  obtain ⟨e170, rfl⟩ := h_170
                  rw [e170]
                  refine mz_iconst d_Mo_search_173 ?_
                  refine mz_iadd d_Mo_search_174 ?_
                  rw [show ((up6 p : Nat) : Int) + 1 = ((up6 p + 1 : Nat) : Int) by omega]
                  refine mz_callV1i (ci := 9) d_Mo_search_175 (m_Mo_numberings (d := 3) (m := up6 p + 1) (KM := KM) (cd := fun j => (Cd2 j).toNat) (B := mB (fun j => (Cd2 j).toNat)) hw2 m2 m9 m10 (m1.at h41 (by simp)) m3 (by omega) (by omega) (fun j hj => hK j (by omega)) (fun j hj => (hcx j hj).1) (fun a b ha hb => mB_mx _ 15 a b ha hb (pr_lt a ha b hb)) (mB_lt (fun j hj => (hcx j hj).2)) (by omega)) cw_Mo_numberings lk_Mo_155 rfl rfl (by omega) (by assumption) (by omega) rfl (fun z_175 S_175 h_175 => ?_)
                  obtain ⟨n1, n2, n3, n4⟩ := h_175
                  rw [hnb] at n4
                  have zr2 : iR z_175 := by
                    rcases n4 with ⟨_, e⟩ | ⟨w, e1, e2⟩
                    · rw [e]; decide
                    · have b1 := nbI_le _ _ _ _ _ _ e1
                      have b2 : (up6 p + 1 + 1) ^ (up6 p + 1) ≤ 2000000 := (show ∀ a, a < 6 → (a + 1 + 1) ^ (a + 1) ≤ 2000000 by decide) _ u2
                      rw [e2]
                      constructor <;> omega
                  refine mz_if_ge 191 d_Mo_search_178 (by decide) (by omega) (fun c_178 => ?_) (fun c_178 => ?_)
                  · refine go (fun hb => ?_) S_175 n1 n2 n3
                    rcases n4 with ⟨_, e⟩ | ⟨w, e1, e2⟩
                    · omega
                    · rw [hb.2] at e1
                      exact absurd e1 (by simp)
                  · have hbt : beat KM (va_up cd p v) p := by
                      rcases n4 with ⟨e, _⟩ | ⟨w, e1, e2⟩
                      · exact ⟨by omega, e⟩
                      · omega
                    have hfv : f v acc = acc := by
                      rw [hf]
                      exact if_pos hbt
                    rw [hfv]
                    have hw3 := n1.w.trans hw2
                    have m20 := n1.at m2 (by simp)
                    refine mj_aload_n d_Mo_search_181 rfl ?_
                    refine mj_iload_n d_Mo_search_182 rfl ?_
                    refine mj_iload_n d_Mo_search_183 rfl ?_
                    refine mz_ineg d_Mo_search_184 ?_
                    refine mz_callV2v (ci := 9) d_Mo_search_185 (m_Mo_change (d := 2) hw3 (n1.at m2 (by simp)) (n1.at m6 (by simp)) u2 u1 (by rw [u3]) (by omega)) cw_Mo_change lk_Mo_148 rfl rfl (by omega) (by assumption) (by omega) rfl (fun S_185 h_185 => ?_)
                    obtain ⟨o1, o2, o3⟩ := h_185
                    refine mj_goto 201 d_Mo_search_188 (by decide) ?_
                    refine mj_goto 23 d_Mo_search_201 (by decide) ?_
                    rw [show left - (v : Int) - -v = left by omega] at o2
                    obtain ⟨Nb3, n2⟩ := n2
                    obtain ⟨T3, n3⟩ := n3
                    have f6 : mj_fr S_152 S_185 [40, 46, 49, 50] := n1.tr o1 (by simp) (by simp)
                    exact again acc S_185 _ hal rfl ⟨m1.tr f6 (by simp) (by simp), o2, ⟨Cd2, f6.at m3 (by simp), fun j hj => by rw [m4 j (by omega), va_up_ne _ _ (by omega)], m5⟩, ⟨_, o3, mset_back (by omega) m7⟩, ⟨Fr2, f6.at m8 (by simp), m8'⟩, ⟨Nb3, o1.at n2 (by simp)⟩, ⟨T3, o1.at n3 (by simp)⟩, Nx2, f6.at m11 (by simp), m12⟩
              · rw [show (z_103 + 1).toNat = 0 by omega, esR]
                exact (hb acc S _ hal rfl (hx0.le (Nat.le_refl _) (by omega) (fun j _ => rfl) (fun j hj => hn2 j hj))).2
            · omega
      have w := inner 4 nx acc S x3 (Nat.le_refl _) (fun _ _ => rfl) hnx hal g3 hx
      exact w
  refine mj_Met.of (by decide) ⟨rfl, rfl⟩ rfl rfl rfl ?_
  have h1 : S0.1 40 = _ := h
  have hPi : (A : Int) * ((A : Int) - 1) / 2 = (P : Int) ∧ 0 ≤ (A : Int) * ((A : Int) - 1) ∧ (A : Int) * ((A : Int) - 1) ≤ 30 := by
    rw [hP]
    exact (show ∀ a : Nat, a < 7 → 1 ≤ a → (a : Int) * ((a : Int) - 1) / 2 = ((a * (a - 1) / 2 : Nat) : Int) ∧ 0 ≤ (a : Int) * ((a : Int) - 1) ∧ (a : Int) * ((a : Int) - 1) ≤ 30 by decide) A (by omega) hA.1
  refine mj_aload_n d_Mo_search_0 rfl ?_
  refine mj_get (ci := 9) (j := 9) d_Mo_search_1 rfl w_Mo_117 (by decide) (by omega) (by assumption) rfl ?_
  refine mj_aload_n d_Mo_search_4 rfl ?_
  refine mj_get (ci := 9) (j := 9) d_Mo_search_5 rfl w_Mo_117 (by decide) (by omega) (by assumption) rfl ?_
  refine mz_iconst d_Mo_search_8 ?_
  refine mz_isub d_Mo_search_9 ?_
  refine mz_imul d_Mo_search_10 ?_
  refine mz_iconst d_Mo_search_11 ?_
  refine mz_idiv d_Mo_search_12 (by omega) (by omega) (by omega) (by omega) ?_
  rw [hPi.1]
  refine mz_ist1 d_Mo_search_13 (rfl) ?_
  refine mz_iconst d_Mo_search_14 ?_
  refine mz_ist2 d_Mo_search_15 (rfl) ?_
  refine mj_aload_n d_Mo_search_16 rfl ?_
  refine mj_get (ci := 9) (j := 14) d_Mo_search_17 rfl w_Mo_33 (by decide) (by omega) (by assumption) rfl ?_
  refine mz_iconst d_Mo_search_20 ?_
  refine mz_iconst d_Mo_search_21 ?_
  refine mz_iast (j := 0) d_Mo_search_22 (by omega) (by assumption) (by omega) (by omega) (fun S_22 w_22 e_22 f_22 => ?_)
  have h42 := f_22.at h42 (by simp)
  have h43 := f_22.at h43 (by simp)
  have h45 := f_22.at h45 (by simp)
  have h46 := f_22.at h46 (by simp)
  have h47 := f_22.at h47 (by simp)
  refine level P 0 left0 (fun _ => 0) F0 (fun _ => 3) [] S_22 (.retAddr 0) id (by omega) hl (fun j hj => (hF0 j hj).2) (fun j hj => absurd hj (Nat.not_lt_zero j)) (by decide) rfl rfl (fun _ _ => rfl) ⟨f_22.tr (mj_fr.rf _ []) (by simp) (by simp), f_22.at h1 (by simp), ⟨Cd0, h42, fun j hj => absurd hj (Nat.not_lt_zero j), hC0⟩, ⟨Fz0, h43, fun j hj => (hF0 j hj).1⟩, ⟨Fr0, h45, fun i hi => absurd hi (Nat.not_lt_zero i)⟩, ⟨Nb0, h46⟩, ⟨T0, h47⟩, _, e_22, fun j hj => by rw [show j = 0 by omega, va_up_self]⟩ (fun acc' S' y3 ha' q3 hx' => ?_)
  constructor
  · refine mz_inc2 d_Mo_search_47 (by unfold mj_c1; simp only [List.all_cons, q3]; rfl) ?_
    refine mj_iload_n d_Mo_search_50 rfl ?_
    refine mz_if_lt 23 d_Mo_search_51 (by decide) (by omega) (fun c_51 => ?_) (fun c_51 => ?_)
    · refine mj_iload_n d_Mo_search_23 rfl ?_
      refine mz_if_lt 204 d_Mo_search_24 (by decide) (by omega) (fun c_24 => ?_) (fun c_24 => ?_)
      · refine mz_vret d_Mo_search_204 rfl ?_
        exact ⟨_, _, _, _, hx'⟩
      · omega
    · omega
  · refine mz_inc2 d_Mo_search_111 (by unfold mj_c1; simp only [List.all_cons, q3]; rfl) ?_
    refine mj_iload_n d_Mo_search_114 rfl ?_
    refine mz_if_lt 201 d_Mo_search_115 (by decide) (by omega) (fun c_115 => ?_) (fun c_115 => ?_)
    · refine mj_goto 23 d_Mo_search_201 (by decide) ?_
      refine mj_iload_n d_Mo_search_23 rfl ?_
      refine mz_if_lt 204 d_Mo_search_24 (by decide) (by omega) (fun c_24 => ?_) (fun c_24 => ?_)
      · refine mz_vret d_Mo_search_204 rfl ?_
        exact ⟨_, _, _, _, hx'⟩
      · omega
    · omega
end MO6
