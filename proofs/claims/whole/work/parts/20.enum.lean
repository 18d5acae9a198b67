/-! the lister's search: rows ended, bonds tried -/
theorem chR_bd {α : Type} (f : Nat → α → α) (v : α → Int) (lo hi : Int) (N : Nat) (h : ∀ a p, a < N → v p + lo ≤ v (f a p) ∧ v (f a p) ≤ v p + hi) : ∀ (q a : Nat) (p : α), a + q ≤ N → v p + q * lo ≤ v (chR f q a p) ∧ v (chR f q a p) ≤ v p + q * hi := by
  intro q
  induction q with
  | zero => intro a p _; simp [chR]
  | succ q ih =>
    intro a p ha
    have h1 := h a p (by omega)
    have h2 := ih (a + 1) (f a p) (by omega)
    rw [chR]
    rw [show ((q + 1 : Nat) : Int) * lo = q * lo + lo by rw [Int.natCast_add, Int.add_mul]; simp, show ((q + 1 : Nat) : Int) * hi = q * hi + hi by rw [Int.natCast_add, Int.add_mul]; simp]
    omega
theorem cgI_bd (B : Nat → Nat) (a : Nat) (p : Int × (Nat → Nat)) : p.1 - a ≤ (cgI B a p).1 ∧ (cgI B a p).1 ≤ p.1 := by
  have h := chR_bd (fun b (p : Int × (Nat → Nat)) => if 0 < B (a * 6 + b) ∧ p.2 b ≠ p.2 a then (p.1 - 1, fun j => if p.2 j = p.2 b then p.2 a else p.2 j) else p) (fun p => p.1) (-1) 0 a (fun b p _ => by
    show p.1 + -1 ≤ (if _ then _ else _ : Int × (Nat → Nat)).1 ∧ (if _ then _ else _ : Int × (Nat → Nat)).1 ≤ p.1 + 0
    split
    · exact ⟨by show _ ≤ p.1 - 1; omega, by show p.1 - 1 ≤ _; omega⟩
    · exact ⟨by omega, by omega⟩) a 0 p (by omega)
  have h1 : p.1 + (a : Int) * -1 ≤ (cgI B a p).1 := h.1
  have h2 : (cgI B a p).1 ≤ p.1 + (a : Int) * 0 := h.2
  omega
theorem cgN_bd (B : Nat → Nat) {n : Nat} (hn : n ≤ 6) : -100 ≤ (cgN B n).1 ∧ (cgN B n).1 ≤ 100 := by
  have h := chR_bd (fun a (p : Int × (Nat → Nat)) => cgI B a (p.1 + 1, va_up p.2 a a)) (fun p => p.1) (-5) 1 6 (fun a p ha => by
    have := cgI_bd B a (p.1 + 1, va_up p.2 a a)
    show p.1 + -5 ≤ (cgI B a (p.1 + 1, va_up p.2 a a)).1 ∧ (cgI B a (p.1 + 1, va_up p.2 a a)).1 ≤ p.1 + 1
    have e : (p.1 + 1, va_up p.2 a a).1 = p.1 + 1 := rfl
    rw [e] at this
    omega) n 0 (0, fun _ => 0) (by omega)
  have h1 : (0 : Int) + (n : Int) * -5 ≤ (cgN B n).1 := h.1
  have h2 : (cgN B n).1 ≤ 0 + (n : Int) * 1 := h.2
  omega
def mset (F : Nat → Int) (a b : Nat) (v : Int) : Nat → Int := va_up (va_up F a (F a - v)) b (F b - v)
def bset (B : Nat → Int) (a b : Nat) (v : Int) : Nat → Int := va_up (va_up B (a * 6 + b) v) (b * 6 + a) v
def bsetN (B : Nat → Nat) (a b : Nat) (v : Nat) : Nat → Nat := va_up (va_up B (a * 6 + b) v) (b * 6 + a) v
def mj_mo (left : Int) (F : Nat → Int) (a b : Nat) : Int := min (min 3 left) (min (F a) (F b))
/-- does the row a end well -/
def en_ok (A : Nat) (KM : Nat → Nat) (V : Nat → Int) (a : Nat) (left : Int) (c : Nat) (B : Nat → Nat) : Prop := left ≤ V (a + 1) ∧ (cgN B (a + 1)).1 + ((A : Int) - ((a + 1 : Nat) : Int)) - 1 ≤ left ∧ btI (a + 1) KM B KM c (a + 1) 0 (fun _ => 0) (fun _ => false) = false
noncomputable def en (A : Nat) (KM : Nat → Nat) (V : Nat → Int) : Nat → Nat → Nat → Int → Nat → (Nat → Int) → (Nat → Nat) → List Nat → List Nat
  | 0, _, _, _, _, _, _, acc => acc
  | m + 1, a, b, left, c, F, B, acc =>
    if a ≤ b then (@ite _ (en_ok A KM V a left c B) (Classical.propDecidable _) (if A ≤ a + 1 then acc ++ [c] else en A KM V m (a + 1) 0 left c F B acc) acc)
    else chR (fun i acc => if 500 < acc.length then acc else en A KM V m a (b + 1) (left - (mj_mo left F a b - i)) (c ||| (mj_mo left F a b - i).toNat * 2 ^ (mj_sh a + 2 * (a - 1 - b))) (mset F a b (mj_mo left F a b - i)) (bsetN B a b (mj_mo left F a b - i).toNat) acc) (mj_mo left F a b + 1).toNat 0 acc
def mj_nuS (S : mj_S) : Prop := ∃ (A g s : Nat) (CA TA : Nat → Int), S.1 17 = .inr (6, [.ref 18, .ref 19, .int (iZ A), .int (iZ g), .int (iZ s)]) ∧ S.1 18 = .inl (0, 6, .inl (mj_z CA)) ∧ S.1 19 = .inl (2, 6, .inl (mj_z TA)) ∧ ∀ j, j < 6 → TA j = 0
theorem mj_nuS.fr {S S' : mj_S} {l : List Nat} (h : mj_nuS S) (hf : mj_fr S S' l) (h1 : 17 ∉ l) (h2 : 18 ∉ l) (h3 : 19 ∉ l) : mj_nuS S' := by
  obtain ⟨A, g, s, CA, TA, q1, q2, q3, q4⟩ := h
  exact ⟨A, g, s, CA, TA, hf.at q1 h1, hf.at q2 h2, hf.at q3 h3, q4⟩
def mj_nvS (S : mj_S) : Prop := ∃ (A g s : Nat) (CA TA : Nat → Int), S.1 24 = .inr (6, [.ref 25, .ref 26, .int (iZ A), .int (iZ g), .int (iZ s)]) ∧ S.1 25 = .inl (0, 6, .inl (mj_z CA)) ∧ S.1 26 = .inl (2, 6, .inl (mj_z TA)) ∧ ∀ j, j < 6 → TA j = 0
theorem mj_nvS.fr {S S' : mj_S} {l : List Nat} (h : mj_nvS S) (hf : mj_fr S S' l) (h1 : 24 ∉ l) (h2 : 25 ∉ l) (h3 : 26 ∉ l) : mj_nvS S' := by
  obtain ⟨A, g, s, CA, TA, q1, q2, q3, q4⟩ := h
  exact ⟨A, g, s, CA, TA, hf.at q1 h1, hf.at q2 h2, hf.at q3 h3, q4⟩
def mj_caL (D : Nat → Int) (acc : List Nat) : Prop := ∀ j, j < 500 → j < acc.length → D j = (acc.getD j 0 : Nat)
theorem mset_bind {F : Nat → Int} {B : Nat → Int} {a b : Nat} {u v : Int} (hab : a ≠ b) (hB : bset B a b u (a * 6 + b) = u) : va_up (va_up (mset F a b u) a (mset F a b u a - (v - bset B a b u (a * 6 + b)))) b (va_up (mset F a b u) a (mset F a b u a - (v - bset B a b u (a * 6 + b))) b - (v - bset B a b u (a * 6 + b))) = mset F a b v := by
  funext j
  rw [hB]
  have ea : mset F a b u a = F a - u := by unfold mset; rw [va_up_ne _ _ hab, va_up_self]
  have eb : mset F a b u b = F b - u := by unfold mset; rw [va_up_self]
  by_cases jb : j = b
  · subst jb
    rw [va_up_self, va_up_ne _ _ (Ne.symm hab), eb]
    unfold mset
    rw [va_up_self]
    omega
  · rw [va_up_ne _ _ jb]
    by_cases ja : j = a
    · subst ja
      rw [va_up_self, ea]
      unfold mset
      rw [va_up_ne _ _ jb, va_up_self]
      omega
    · rw [va_up_ne _ _ ja]
      unfold mset
      rw [va_up_ne _ _ jb, va_up_ne _ _ ja, va_up_ne _ _ jb, va_up_ne _ _ ja]
theorem bset_at {B : Nat → Int} {a b : Nat} {u : Int} : bset B a b u (a * 6 + b) = u := by
  unfold bset
  by_cases e : a * 6 + b = b * 6 + a
  · rw [e, va_up_self]
  · rw [va_up_ne _ _ e, va_up_self]
theorem bset_bset {B : Nat → Int} {a b : Nat} {u v : Int} : va_up (va_up (bset B a b u) (a * 6 + b) v) (b * 6 + a) v = bset B a b v := by
  funext j
  unfold bset
  by_cases j1 : j = b * 6 + a
  · subst j1; rw [va_up_self, va_up_self]
  · rw [va_up_ne _ _ j1, va_up_ne _ _ j1]
    by_cases j2 : j = a * 6 + b
    · subst j2; rw [va_up_self, va_up_self]
    · rw [va_up_ne _ _ j2, va_up_ne _ _ j2, va_up_ne _ _ j1, va_up_ne _ _ j2]
theorem mset_0 (F : Nat → Int) (a b : Nat) : mset F a b 0 = F := by
  funext j
  unfold mset
  by_cases jb : j = b
  · subst jb; rw [va_up_self]; omega
  · rw [va_up_ne _ _ jb]
    by_cases ja : j = a
    · subst ja; rw [va_up_self]; omega
    · rw [va_up_ne _ _ ja]
theorem bset_0 {B : Nat → Int} {a b : Nat} (h1 : B (a * 6 + b) = 0) (h2 : B (b * 6 + a) = 0) : bset B a b 0 = B := by
  funext j
  unfold bset
  by_cases jb : j = b * 6 + a
  · subst jb; rw [va_up_self, h2]
  · rw [va_up_ne _ _ jb]
    by_cases ja : j = a * 6 + b
    · subst ja; rw [va_up_self, h1]
    · rw [va_up_ne _ _ ja]
theorem bset_N {B : Nat → Int} {BN : Nat → Nat} {a b v : Nat} (h : ∀ j, j < 36 → B j = BN j ∧ BN j < 4) (hv : v < 4) : ∀ j, j < 36 → bset B a b v j = bsetN BN a b v j ∧ bsetN BN a b v j < 4 := by
  intro j hj
  unfold bset bsetN
  by_cases jb : j = b * 6 + a
  · subst jb; rw [va_up_self, va_up_self]; exact ⟨rfl, hv⟩
  · rw [va_up_ne _ _ jb, va_up_ne _ _ jb]
    by_cases ja : j = a * 6 + b
    · subst ja; rw [va_up_self, va_up_self]; exact ⟨rfl, hv⟩
    · rw [va_up_ne _ _ ja, va_up_ne _ _ ja]; exact h j hj
section EN
variable {Γ : mj_G} {A ca nC hC : Nat} {K V KC : Nat → Int} {KM : Nat → Nat}
theorem m_Ls_canBeEnded {d m : Nat} {S : mj_S} {left : Int} {F B GA : Nat → Int} {BN : Nat → Nat} (hw : S.2.1 = 65) (hl : mj_ls S ca V) (hm : mj_ml S 27 A K F B) (hB : ∀ j, j < 36 → B j = BN j ∧ BN j < 4) (hg : S.1 32 = .inl (0, 6, .inl (mj_z GA))) (hmA : m ≤ A) (hA : A ≤ 6) (hleft : iR left) (hV : iR (V m)) (hd : 2 ≤ d) :
    mj_Met Γ d y_Ls_canBeEnded M_Ls_canBeEnded [.ref 20, .int (iZ m), .int (iZ left)] S 0 0 (mj_I fun z S' => mj_fr S S' [32] ∧ ((z = 1 ∧ left ≤ V m ∧ (cgN BN m).1 + ((A : Int) - (m : Int)) - 1 ≤ left) ∨ (z = 0 ∧ ¬ (left ≤ V m ∧ (cgN BN m).1 + ((A : Int) - (m : Int)) - 1 ≤ left))) ∧ ∃ GA', S'.1 32 = .inl (0, 6, .inl (mj_z GA'))) := by
  have hl0 := hl
  have m1 := hm.1
  obtain ⟨l1, l2⟩ := hl
  have hb := cgN_bd BN (n := m) (by omega)
  refine mj_Met.of (by decide) ⟨rfl, rfl⟩ rfl rfl rfl ?_
  refine mj_aload_n d_Ls_canBeEnded_0 rfl ?_
  refine mj_get (ci := 7) (j := 2) d_Ls_canBeEnded_1 rfl w_Ls_28 (by decide) (by omega) (by assumption) rfl ?_
  refine mj_get (ci := 4) (j := 3) d_Ls_canBeEnded_4 rfl w_Ls_54 (by decide) (by omega) (by assumption) rfl ?_
  refine mj_iload_n d_Ls_canBeEnded_7 rfl ?_
  refine mz_isub d_Ls_canBeEnded_8 ?_
  refine mz_ist3 d_Ls_canBeEnded_9 (rfl) ?_
  refine mj_iload_n d_Ls_canBeEnded_10 rfl ?_
  refine mj_aload_n d_Ls_canBeEnded_11 rfl ?_
  refine mj_get (ci := 7) (j := 3) d_Ls_canBeEnded_12 rfl w_Ls_32 (by decide) (by omega) (by assumption) rfl ?_
  refine mj_iload_n d_Ls_canBeEnded_15 rfl ?_
  refine mz_iald d_Ls_canBeEnded_16 (by omega) (by assumption) (rfl) (by omega) ?_
  refine mz_icmp_gt 37 d_Ls_canBeEnded_17 (by decide) (by omega) (by omega) (fun c_17 => ?_) (fun c_17 => ?_)
  · refine mz_iconst d_Ls_canBeEnded_37 ?_
    refine mz_iret d_Ls_canBeEnded_38 rfl (rfl) ?_
    exact ⟨mj_fr.rf _ _, Or.inr ⟨rfl, by omega⟩, GA, hg⟩
  · refine mj_iload_n d_Ls_canBeEnded_20 rfl ?_
    refine mj_aload_n d_Ls_canBeEnded_21 rfl ?_
    refine mj_iload_n d_Ls_canBeEnded_22 rfl ?_
    refine mz_callV1i (ci := 7) d_Ls_canBeEnded_23 (m_Ls_countGroups (d := 1) (BN := BN) hw hl0 hm hB hg (by omega) (by omega)) cw_Ls_countGroups lk_Ls_93 rfl rfl (by omega) (by assumption) (by omega) rfl (fun z_23 S_23 h_23 => ?_)
    obtain ⟨g1, rfl, GA2, g2⟩ := h_23
    refine mj_iload_n d_Ls_canBeEnded_26 rfl ?_
    refine mz_iadd d_Ls_canBeEnded_27 ?_
    refine mz_iconst d_Ls_canBeEnded_28 ?_
    refine mz_isub d_Ls_canBeEnded_29 ?_
    refine mz_icmp_lt 37 d_Ls_canBeEnded_30 (by decide) (by omega) (by omega) (fun c_30 => ?_) (fun c_30 => ?_)
    · refine mz_iconst d_Ls_canBeEnded_37 ?_
      refine mz_iret d_Ls_canBeEnded_38 rfl (rfl) ?_
      exact ⟨g1, Or.inr ⟨rfl, by omega⟩, GA2, g2⟩
    · refine mz_iconst d_Ls_canBeEnded_33 ?_
      refine mj_goto 38 d_Ls_canBeEnded_34 (by decide) ?_
      refine mz_iret d_Ls_canBeEnded_38 rfl (rfl) ?_
      exact ⟨g1, Or.inl ⟨rfl, by omega, by omega⟩, GA2, g2⟩
/-- what a state of the search is -/
def mj_en (S : mj_S) (A ca nC hC : Nat) (K V KC : Nat → Int) (F : Nat → Int) (BN : Nat → Nat) (acc : List Nat) : Prop :=
  S.2.1 = 65 ∧ mj_ls S ca V ∧ (∃ B : Nat → Int, mj_ml S 27 A K F B ∧ ∀ j, j < 36 → B j = BN j ∧ BN j < 4) ∧ mj_nvS S ∧ (∃ GA, S.1 32 = .inl (0, 6, .inl (mj_z GA))) ∧ ∃ D, mj_ca S ca KC D nC hC acc.length ∧ mj_caL D acc
theorem m_Ls_endRow {m a c d : Nat} {S : mj_S} {left : Int} {F : Nat → Int} {BN : Nat → Nat} {acc : List Nat} (he : mj_en S A ca nC hC K V KC F BN acc) (hca : 20 < ca ∧ ca + 2 < 24) (hA : A ≤ 6) (ha : a < A) (hK : ∀ j, j < A → K j = KM j ∧ KM j < 1000) (hV : ∀ j, j ≤ A → iR (V j)) (hc : c < 2 ^ 30) (hleft : 0 ≤ left ∧ left ≤ 100) (hacc : acc.length ≤ 500) (hd : 20 ≤ d)
    (H : a + 1 < A → ∀ S2 : mj_S, mj_fr S S2 [24, 25, 26, 32] → mj_en S2 A ca nC hC K V KC F BN acc → mj_Met Γ (d - 1) y_Ls_bindOn M_Ls_bindOn [.ref 20, .int (iZ ((a + 1 : Nat) : Int)), .int (iZ 0), .int (iZ left), .int (iZ c)] S2 0 0 (mj_V fun S' => mj_fr S2 S' [24, 25, 26, 29, 30, 32, ca, ca + 2] ∧ mj_en S' A ca nC hC K V KC F BN (en A KM V m (a + 1) 0 left c F BN acc) ∧ (en A KM V m (a + 1) 0 left c F BN acc).length ≤ 501)) :
    mj_Met Γ d y_Ls_endRow M_Ls_endRow [.ref 20, .int (iZ a), .int (iZ left), .int (iZ c)] S 0 0 (mj_V fun S' => mj_fr S S' [24, 25, 26, 29, 30, 32, ca, ca + 2] ∧ mj_en S' A ca nC hC K V KC F BN (en A KM V (m + 1) a a left c F BN acc) ∧ (en A KM V (m + 1) a a left c F BN acc).length ≤ 501) := by
  have he0 := he
  obtain ⟨hw, hl, ⟨B, hml, hB⟩, hnu, ⟨GA, hg⟩, D, hcat, hD⟩ := he
  have l1 := hl.1
  have m1 := hml.1
  have hcat62 := hcat.2.2.2
  refine mj_Met.of (by decide) ⟨rfl, rfl⟩ rfl rfl rfl ?_
  refine mj_iload_n d_Ls_endRow_0 rfl ?_
  refine mz_iconst d_Ls_endRow_1 ?_
  refine mz_iadd d_Ls_endRow_2 ?_
  refine mz_ist4 d_Ls_endRow_3 (rfl) ?_
  refine mj_aload_n d_Ls_endRow_5 rfl ?_
  refine mj_iload d_Ls_endRow_6 rfl ?_
  refine mj_iload_n d_Ls_endRow_8 rfl ?_
  refine mz_callV2i (ci := 7) d_Ls_endRow_9 (m_Ls_canBeEnded (d := 2) (m := a + 1) (BN := BN) hw hl hml hB hg (by omega) hA (by omega) (hV _ (by omega)) (by omega)) cw_Ls_canBeEnded lk_Ls_81 rfl rfl (by omega) (by assumption) (by omega) rfl (fun z_9 S_9 h_9 => ?_)
  obtain ⟨g1, hz, GA2, g2⟩ := h_9
  have en9 : mj_en S_9 A ca nC hC K V KC F BN acc := ⟨g1.w.trans hw, ⟨g1.at hl.1 (by simp), g1.at hl.2 (by simp)⟩, ⟨B, hml.fr g1 (by simp), hB⟩, hnu.fr g1 (by simp) (by simp) (by simp), ⟨GA2, g2⟩, D, hcat.fr g1 (by simp; omega), hD⟩
  rcases hz with ⟨rfl, z1, z2⟩ | ⟨rfl, z1⟩
  · refine mz_if_eq 32 d_Ls_endRow_12 (by decide) (by omega) (fun c_12 => ?_) (fun c_12 => ?_)
    · simp at c_12
    · have hw9 := g1.w
      have l1 := g1.at l1 (by simp)
      have m1 := g1.at m1 (by simp)
      obtain ⟨A0, g0, s0, CA, TA, q1, q2, q3, q4⟩ := en9.2.2.2.1
      refine mj_aload_n d_Ls_endRow_15 rfl ?_
      refine mj_get (ci := 7) (j := 1) d_Ls_endRow_16 rfl w_Ls_21 (by decide) (by omega) (by assumption) rfl ?_
      refine mj_aload_n d_Ls_endRow_19 rfl ?_
      refine mj_get (ci := 7) (j := 2) d_Ls_endRow_20 rfl w_Ls_28 (by decide) (by omega) (by assumption) rfl ?_
      refine mj_iload d_Ls_endRow_23 rfl ?_
      refine mj_iload_n d_Ls_endRow_25 rfl ?_
      refine mz_callV3i (ci := 6) d_Ls_endRow_26 (m_Nu_isGreatest (d := 14) (B := BN) (KM := KM) (n := a + 1) (by omega) q1 (hml.fr g1 (by simp)) (by omega) q2 q3 q4 (fun j hj => hK j (by omega)) hB (by omega) hc (by omega)) cw_Nu_isGreatest lk_Ls_85 rfl rfl (by omega) (by assumption) (by omega) rfl (fun z_26 S_26 h_26 => ?_)
      obtain ⟨g3, rfl, g4, g5, CA2, g6⟩ := h_26
      have f3 : mj_fr S S_26 [24, 25, 26, 32] := g1.tr g3 (by simp) (by simp)
      have en26 : mj_en S_26 A ca nC hC K V KC F BN acc := ⟨f3.w.trans hw, ⟨f3.at hl.1 (by simp), f3.at hl.2 (by simp)⟩, ⟨B, hml.fr f3 (by simp), hB⟩, ⟨_, _, _, CA2, TA, g4, g6, g5, q4⟩, ⟨GA2, g3.at g2 (by simp)⟩, D, hcat.fr f3 (by simp; omega), hD⟩
      have hw26 := f3.w
      have l1 := g3.at l1 (by simp)
      have m1 := g3.at m1 (by simp)
      cases hb : btI (a + 1) KM BN KM c (a + 1) 0 (fun _ => 0) (fun _ => false) with
      | true =>
        refine mz_if_ne 33 d_Ls_endRow_29 (by decide) (by omega) (fun c_29 => ?_) (fun c_29 => ?_)
        · simp at c_29
        · refine mz_vret d_Ls_endRow_32 rfl ?_
          have e : en A KM V (m + 1) a a left c F BN acc = acc := by
            rw [en, if_pos (Nat.le_refl _), if_neg]
            intro q
            have := q.2.2
            rw [hb] at this
            exact absurd this (by simp)
          rw [e]
          exact ⟨f3.tr (mj_fr.rf _ []) (by simp) (by simp), en26, by omega⟩
      | false =>
        refine mz_if_ne 33 d_Ls_endRow_29 (by decide) (by omega) (fun c_29 => ?_) (fun c_29 => ?_)
        · have hok : en_ok A KM V a left c BN := ⟨z1, z2, hb⟩
          refine mj_iload d_Ls_endRow_33 rfl ?_
          refine mj_aload_n d_Ls_endRow_35 rfl ?_
          refine mj_get (ci := 7) (j := 2) d_Ls_endRow_36 rfl w_Ls_28 (by decide) (by omega) (by assumption) rfl ?_
          refine mj_get (ci := 4) (j := 3) d_Ls_endRow_39 rfl w_Ls_54 (by decide) (by omega) (by assumption) rfl ?_
          refine mz_icmp_lt 56 d_Ls_endRow_42 (by decide) (by omega) (by omega) (fun c_42 => ?_) (fun c_42 => ?_)
          · refine mj_aload_n d_Ls_endRow_56 rfl ?_
            refine mj_iload d_Ls_endRow_57 rfl ?_
            refine mz_iconst d_Ls_endRow_59 ?_
            refine mj_iload_n d_Ls_endRow_60 rfl ?_
            refine mj_iload_n d_Ls_endRow_61 rfl ?_
            refine mz_callV4v (ci := 7) d_Ls_endRow_62 (H (by omega) S_26 f3 en26) cw_Ls_bindOn lk_Ls_77 rfl rfl (by omega) (by assumption) (by omega) rfl (fun S_62 h_62 => ?_)
            obtain ⟨g7, g8, g9⟩ := h_62
            refine mz_vret d_Ls_endRow_65 rfl ?_
            have e : en A KM V (m + 1) a a left c F BN acc = en A KM V m (a + 1) 0 left c F BN acc := by
              rw [en, if_pos (Nat.le_refl _), if_pos hok, if_neg (by omega)]
            rw [e]
            exact ⟨f3.tr g7 (by simp) (by simp), g8, g9⟩
          · have cc := en26.2.2.2.2.2
            obtain ⟨D2, hc2, hD2⟩ := cc
            have c1 := hc2.1
            refine mj_aload_n d_Ls_endRow_45 rfl ?_
            refine mj_get (ci := 7) (j := 0) d_Ls_endRow_46 rfl w_Ls_12 (by decide) (by omega) (by assumption) rfl ?_
            refine mj_iload_n d_Ls_endRow_49 rfl ?_
            refine mz_callV1v (ci := 8) d_Ls_endRow_50 (m_Ca_add (d := 0) (by omega) hc2 (by omega)) cw_Ca_add lk_Ls_89 rfl rfl (by omega) (by assumption) (by omega) rfl (fun S_50 h_50 => ?_)
            obtain ⟨g7, g8⟩ := h_50
            refine mj_goto 65 d_Ls_endRow_53 (by decide) ?_
            refine mz_vret d_Ls_endRow_65 rfl ?_
            have e : en A KM V (m + 1) a a left c F BN acc = acc ++ [c] := by
              rw [en, if_pos (Nat.le_refl _), if_pos hok, if_pos (by omega)]
            rw [e]
            have hlen : (acc ++ [c]).length = acc.length + 1 := by simp
            have f4 : mj_fr S S_50 [24, 25, 26, 32, ca, ca + 2] := f3.tr g7 (by simp) (by simp)
            refine ⟨f4.tr (mj_fr.rf _ []) (by simp) (by simp), ⟨f4.w.trans hw, ⟨f4.at hl.1 (by simp; omega), f4.at hl.2 (by simp; omega)⟩, ⟨B, hml.fr f4 (by simp; omega), hB⟩, en26.2.2.2.1.fr g7 (by simp; omega) (by simp; omega) (by simp; omega), ⟨GA2, g7.at (g3.at g2 (by simp)) (by simp; omega)⟩, _, by rw [hlen]; exact g8, fun j hj hj2 => ?_⟩, by rw [hlen]; omega⟩
            rw [hlen] at hj2
            by_cases hz : acc.length < 500
            · rw [if_pos hz]
              by_cases e2 : j = acc.length
              · subst e2
                rw [va_up_self]
                simp
              · rw [va_up_ne _ _ e2, hD2 j hj (by omega)]
                simp [List.getElem?_append_left (show j < acc.length by omega)]
            · rw [if_neg hz, hD2 j hj (by omega)]
              simp [List.getElem?_append_left (show j < acc.length by omega)]
        · simp at c_29
  · refine mz_if_eq 32 d_Ls_endRow_12 (by decide) (by omega) (fun c_12 => ?_) (fun c_12 => ?_)
    · refine mz_vret d_Ls_endRow_32 rfl ?_
      have e : en A KM V (m + 1) a a left c F BN acc = acc := by
        rw [en, if_pos (Nat.le_refl _), if_neg]
        exact fun q => z1 ⟨q.1, q.2.1⟩
      rw [e]
      exact ⟨g1.tr (mj_fr.rf _ []) (by simp) (by simp), en9, by omega⟩
    · simp at c_12
end EN
